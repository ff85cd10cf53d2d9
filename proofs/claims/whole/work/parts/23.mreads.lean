/-! the model: reads and refusals -/
/-! the model: calls that read, calls that are refused -/
theorem in_ok {j n : Nat} (h : j ≤ n) (hn : n < 2 ^ 31) : pIn (nI j) (nI 0).toInt (nI n).toInt := by
  have e : (nI 0).toInt = 0 := rfl
  rw [e, nI_toInt hn]; exact ok_idx h hn
theorem in_no {j : Int32} {n : Nat} (hn : n < 2 ^ 30) (h : ¬ pIn j 0 ((n : Int) - 1)) : ¬ pIn j (nI 0).toInt (nI n - nI 1).toInt := by
  have e : (nI 0).toInt = 0 := rfl
  have e1 : (nI 1).toInt = 1 := rfl
  rw [e, g_subI hn (by rw [e1]; omega), e1]; exact h
theorem sm64 (F : Nat → Nat) : fb_sm F 64 = fb_sm (fun i => fb_sm (fun k => F (cof i k)) 16) 4 := by
  simp only [fb_sm, cof, Nat.reduceDiv, Nat.reduceMod, Nat.reduceMul, Nat.reduceAdd, Nat.zero_add]
  omega
theorem sm192 (E : Nat → Nat) : fb_sm E 192 = fb_sm (fun t => fb_sm (fun k => E (cof t k)) 16) 12 := by
  have h1 := fb_sm_split E 64 128
  have h2 := fb_sm_split (fun k => E (64 + k)) 64 64
  have g1 := fb_sm_split (fun t => fb_sm (fun k => E (cof t k)) 16) 4 8
  have g2 := fb_sm_split (fun t => fb_sm (fun k => E (cof (4 + t) k)) 16) 4 4
  have q0 := sm64 E
  have q1 := sm64 (fun k => E (64 + k))
  have q2 := sm64 (fun k => E (64 + (64 + k)))
  have e1 : fb_sm (fun i => fb_sm (fun k => E (64 + cof i k)) 16) 4 = fb_sm (fun t => fb_sm (fun k => E (cof (4 + t) k)) 16) 4 := fb_sm_cong (fun i hi => fb_sm_cong (fun k hk => congrArg E (by show 64 + (16 * (4 * (i / 4) + k / 4) + 4 * (i % 4) + k % 4) = 16 * (4 * ((4 + i) / 4) + k / 4) + 4 * ((4 + i) % 4) + k % 4; omega)))
  have e2 : fb_sm (fun i => fb_sm (fun k => E (64 + (64 + cof i k))) 16) 4 = fb_sm (fun t => fb_sm (fun k => E (cof (4 + (4 + t)) k)) 16) 4 := fb_sm_cong (fun i hi => fb_sm_cong (fun k hk => congrArg E (by show 64 + (64 + (16 * (4 * (i / 4) + k / 4) + 4 * (i % 4) + k % 4)) = 16 * (4 * ((4 + (4 + i)) / 4) + k / 4) + 4 * ((4 + (4 + i)) % 4) + k % 4; omega)))
  have h1 : fb_sm E 192 = fb_sm E 64 + fb_sm (fun k => E (64 + k)) 128 := h1
  have g1 : fb_sm (fun t => fb_sm (fun k => E (cof t k)) 16) 12 = fb_sm (fun t => fb_sm (fun k => E (cof t k)) 16) 4 + fb_sm (fun t => fb_sm (fun k => E (cof (4 + t) k)) 16) 8 := g1
  have h2 : fb_sm (fun k => E (64 + k)) 128 = fb_sm (fun k => E (64 + k)) 64 + fb_sm (fun k => E (64 + (64 + k))) 64 := h2
  have g2 : fb_sm (fun t => fb_sm (fun k => E (cof (4 + t) k)) 16) 8 = fb_sm (fun t => fb_sm (fun k => E (cof (4 + t) k)) 16) 4 + fb_sm (fun t => fb_sm (fun k => E (cof (4 + (4 + t)) k)) 16) 4 := g2
  have q1 : fb_sm (fun k => E (64 + k)) 64 = fb_sm (fun i => fb_sm (fun k => E (64 + cof i k)) 16) 4 := q1
  have q2 : fb_sm (fun k => E (64 + (64 + k))) 64 = fb_sm (fun i => fb_sm (fun k => E (64 + (64 + cof i k))) 16) 4 := q2
  omega
/-- how many cells differ, cell by cell -/
def cdf (A B : Nat → Int64) (j : Nat) : Nat := if at2 A (j % 16) (j / 16) = at2 B (j % 16) (j / 16) then 0 else 1
theorem cdf_0 {A B : Nat → Int64} {j : Nat} (h : at2 A (j % 16) (j / 16) = at2 B (j % 16) (j / 16)) : cdf A B j = 0 := if_pos h
theorem cdf_1 {A B : Nat → Int64} {j : Nat} (h : ¬ at2 A (j % 16) (j / 16) = at2 B (j % 16) (j / 16)) : cdf A B j = 1 := if_neg h
theorem difF_sm (x y : Int64) : ∀ i, difF x y i = fb_sm (fun k => if cel x k = cel y k then 0 else 1) i
  | 0 => rfl
  | i + 1 => by show difF x y i + _ = fb_sm _ i + _; rw [difF_sm x y i]
theorem sumD_sm (A B : Nat → Int64) : ∀ i, sumD A B i = fb_sm (fun t => nDif (A t) (B t)) i
  | 0 => rfl
  | i + 1 => by show sumD A B i + _ = fb_sm _ i + _; rw [sumD_sm A B i]
theorem cdf_sum (A B : Nat → Int64) : fb_sm (cdf A B) 192 = sumD A B 12 := by
  rw [sm192, sumD_sm]
  refine fb_sm_cong (fun t ht => ?_)
  show _ = difF (A t) (B t) 16
  rw [difF_sm]
  refine fb_sm_cong (fun k hk => ?_)
  have e1 : cof t k % 16 = 4 * (t % 4) + k % 4 := by show (16 * (4 * (t / 4) + k / 4) + 4 * (t % 4) + k % 4) % 16 = _; omega
  have e2 : cof t k / 16 = 4 * (t / 4) + k / 4 := by show (16 * (4 * (t / 4) + k / 4) + 4 * (t % 4) + k % 4) / 16 = _; omega
  have e3 : tl (4 * (t % 4) + k % 4) (4 * (t / 4) + k / 4) = t := by show 4 * ((4 * (t / 4) + k / 4) / 4) + (4 * (t % 4) + k % 4) / 4 = t; omega
  have e4 : plc (4 * (t % 4) + k % 4) (4 * (t / 4) + k / 4) = k := by show 4 * ((4 * (t / 4) + k / 4) % 4) + (4 * (t % 4) + k % 4) % 4 = k; omega
  unfold cdf
  rw [e1, e2]
  show (if cel (A (tl _ _)) (plc _ _) = cel (B (tl _ _)) (plc _ _) then 0 else 1) = _
  rw [e3, e4]
theorem hSo_at {S : Nat → Int64} {f : Nat → Int32} {c j : Nat} (h : hSo S f c) (hj : j < 192) : f (192 * c + j) = nI (at2 S (j % 16) (j / 16)) := by
  have := h (j % 16) (j / 16) (by omega) (by omega)
  rw [show 16 * (j / 16) + j % 16 = j by omega] at this
  exact this
theorem hS_at {S : Nat → Int64} {f : Nat → Int32} {j : Nat} (h : hS S f) (hj : j < 192) : f j = nI (at2 S (j % 16) (j / 16)) := by
  have := h (j % 16) (j / 16) (by omega) (by omega)
  rw [show 16 * (j / 16) + j % 16 = j by omega] at this
  exact this
theorem hCo_at {C : List Int64} {f : Nat → Int32} {c j : Nat} (h : hCo C f c) (hj : j < 16 * C.length) : f (112 * c + j) = nI (cel (C.getD (j / 16) 0) (j % 16)) := by
  have := h (j / 16) (j % 16) (by omega) (by omega)
  rw [show 112 * c + 16 * (j / 16) + j % 16 = 112 * c + j by omega] at this
  exact this
theorem alike_iff {K L : List Int64} {P : Prop} {k : Nat} (hP : P ↔ K.length = L.length ∧ ∀ j, j < k → cel (K.getD (j / 16) 0) (j % 16) = cel (L.getD (j / 16) 0) (j % 16)) (he : 16 * K.length ≤ k ∨ ¬ P) : P ↔ K = L := by
  constructor
  · intro h
    obtain ⟨h1, h2⟩ := hP.mp h
    have hk : 16 * K.length ≤ k := he.elim id (fun z => absurd h z)
    apply List.ext_getElem?
    intro i
    by_cases hi : i < K.length
    · rw [getD_some hi, getD_some (by omega)]
      refine congrArg some (cel_ext (fun m hm => ?_))
      have := h2 (16 * i + m) (by omega)
      rw [show (16 * i + m) / 16 = i by omega, show (16 * i + m) % 16 = m by omega] at this
      exact this
    · rw [List.getElem?_eq_none (by omega), List.getElem?_eq_none (by omega)]
  · intro h
    subst h
    exact hP.mpr ⟨rfl, fun j _ => rfl⟩
set_option maxHeartbeats 4000000 in
set_option maxRecDepth 100000 in
theorem c_X4_colour_b (l : Launch) (D : va_G) (cy : Nat → ClassId) (sz : Nat) (q : Nat → Nat) (T U : Int32) (c r : Int32) (hn : ¬ pCell c r) : Met l yX4_colour wsX4_colour ({ frames := 2, cells := 0, slots := 0, locals := 43 } : Room) (va_Pc [.ref (q 0), .int c, .int r] (gI D (gT cy) [(q 0, eMod T q U)] sz)) (va_Qi (fun (r9 : Int32) (u : Unit) => r9 = nI 0 ∧ ((True))) (gO D (fun u : Unit => [(q 0, eMod (nI 1) q U)]) (va_A [(q 0, eMod T q U)] sz)) (va_A [(q 0, eMod T q U)] sz)) 0 0 (va_A [(q 0, eMod T q U)] sz) := by
  refine gW_i (cc := cX4_colour) (maxL := 3) (ty := .int) (by decide) rfl (Nat.le_of_ble_eq_true rfl) (fun v u hv => by rfl) ?_
  intro pp ee ss mm bw mt cd QQ AA ls hfx hP hG hD hA hret hl
  have hS : va_S AA ss.heap ss.heap [] := va_S.rf
  obtain ⟨H, eH⟩ : ∃ H, H = ss.heap := ⟨_, rfl⟩
  obtain ⟨locs, eL⟩ : ∃ L : List Loc, L = [] := ⟨_, rfl⟩
  have hP : va_P D vwCl [(q 0, eMod T q U)] H := by rw [eH]; exact hP
  have hS : va_S AA ss.heap H locs := by rw [eH, eL]; exact hS
  have goal : ∀ X Y, X = H → Y = locs → W pp l ee ({ frames := 2, cells := 0, slots := 0, locals := 43 } : Room) ss mm ([.ref (q 0), .int c, .int r] : List Value).toArray bw mt cd X Y 0 0 QQ (F0 mm 0 ls []) → W pp l ee ({ frames := 2, cells := 0, slots := 0, locals := 43 } : Room) ss mm ([.ref (q 0), .int c, .int r] : List Value).toArray bw mt cd ss.heap [] 0 0 QQ (F0 mm 0 ls []) := fun X Y hX hY h => by rw [hX, hY, eH, eL] at h; exact h
  refine goal H locs rfl rfl ?_
  clear goal eH eL
  obtain ⟨hx, hb, hml, hown, hts, hlocks⟩ := hfx
  have hown : ss.vm.findClass RX4 = some mm.cls := hown
  have hl : lv_has ls 3 [(0, .ref (q 0)), (1, .int c), (2, .int r)] := hl
  refine lv_aload_n hx hb dX4_colour_0 rfl (lv_at hl 0 rfl) ?_
  refine lv_iload_n hx hb dX4_colour_1 rfl (lv_at hl 1 rfl) ?_
  refine lv_iload_n hx hb dX4_colour_2 rfl (lv_at hl 2 rfl) ?_
  refine gc_Si (va_runS (As := [.int c, .int r]) (rest := [.ref (q 0)]) ⟨hx, hb, hml, hown, hts⟩ (c_X4_isCell l D cy c r) (va_cwS 2 hts gX4_colour_X4_isCell rfl rfl rfl (by decide +kernel) ⟨Nat.le_of_ble_eq_true rfl, Nat.le_of_ble_eq_true rfl⟩) (gpSR hG (hP.sub [] rfl)) rfl rfl hl.1 rfl (lv_room (Nat.le_of_ble_eq_true rfl)) dX4_colour_3 ⟨Nat.zero_le _, Nat.zero_le _⟩) ?_
  refine lv_if_eq (tgt := 13) hx hb dX4_colour_6 (by decide) (fun c_6 => ?_) (fun c_6 => ?_)
  · skip
    have c_6 : ¬ (pCell c r) := gb_eq0.mp c_6
    refine lv_iconst (v := nI 1) hx hb dX4_colour_13 (by decide) ?_
    refine gc_Wi (wn := fun u => [(q 0, eMod (nI 1) q U)]) (wr := []) (va_runV (As := [.int (nI 1)]) (rest := []) ⟨hx, hb, hml, hown, hts⟩ (c_X4_goesWell l D cy H.size q T U 1 (by decide)) (cwV 1 hts gX4_colour_X4_goesWell rfl rfl rfl (by decide +kernel) ⟨Nat.le_of_ble_eq_true rfl, Nat.le_of_ble_eq_true rfl⟩) (gpVI (ci := 4) (q0 := 0) hG (hP.sub [0] rfl) (hD.sub [0] (by decide) rfl) rfl rfl) rfl rfl hl.1 rfl (lv_room (Nat.le_of_ble_eq_true rfl)) dX4_colour_14 ⟨Nat.zero_le _, Nat.zero_le _⟩) hP hD hS hA [0] [] [0] rfl rfl (by decide) (by decide) (fun _ => rfl) (by decide) (fun r_14 _u H locs hw_14 hP hD hS => ?_)
    have hP : va_P D vwCl [(q 0, eMod (nI 1) q U)] H := hP
    have hD : va_D AA [(q 0, eMod (nI 1) q U)] := hD
    obtain ⟨hr_14, hw_14⟩ := hw_14
    refine g_ti (y := gb (1 = 0)) hr_14 ?_
    have hw_14 : True := hw_14
    refine lv_if_eq (tgt := 34) hx hb dX4_colour_17 (by decide) (fun c_17 => ?_) (fun c_17 => ?_)
    · skip
      have c_17 : ¬ (1 = 0) := gb_eq0.mp c_17
      refine lv_iconst (v := nI 0) hx hb dX4_colour_34 (by decide) ?_
      exact hret _ _ _ _ _ () dX4_colour_35 (⟨rfl, trivial⟩) (hP.sub [0] rfl) (hD.sub [0] (by decide) rfl) hS
    · skip
      have c_17 : 1 = 0 := gb_ne0.mp c_17
      exact absurd c_17 (by decide)
  · skip
    have c_6 : pCell c r := gb_ne0.mp c_6
    exact absurd c_6 (hn)
set_option maxHeartbeats 4000000 in
set_option maxRecDepth 100000 in
theorem c_X4_colours_b (l : Launch) (D : va_G) (cy : Nat → ClassId) (sz : Nat) (q : Nat → Nat) (T U : Int32) (t : Int32) (hn : ¬ pIn t 0 11) : Met l yX4_colours wsX4_colours ({ frames := 2, cells := 0, slots := 0, locals := 42 } : Room) (va_Pc [.ref (q 0), .int t] (gI D (gT cy) [(q 0, eMod T q U)] sz)) (va_Qi (fun (r9 : Int32) (u : Unit) => r9 = nI 0 ∧ ((True))) (gO D (fun u : Unit => [(q 0, eMod (nI 1) q U)]) (va_A [(q 0, eMod T q U)] sz)) (va_A [(q 0, eMod T q U)] sz)) 0 0 (va_A [(q 0, eMod T q U)] sz) := by
  refine gW_i (cc := cX4_colours) (maxL := 2) (ty := .int) (by decide) rfl (Nat.le_of_ble_eq_true rfl) (fun v u hv => by rfl) ?_
  intro pp ee ss mm bw mt cd QQ AA ls hfx hP hG hD hA hret hl
  have hS : va_S AA ss.heap ss.heap [] := va_S.rf
  obtain ⟨H, eH⟩ : ∃ H, H = ss.heap := ⟨_, rfl⟩
  obtain ⟨locs, eL⟩ : ∃ L : List Loc, L = [] := ⟨_, rfl⟩
  have hP : va_P D vwCl [(q 0, eMod T q U)] H := by rw [eH]; exact hP
  have hS : va_S AA ss.heap H locs := by rw [eH, eL]; exact hS
  have goal : ∀ X Y, X = H → Y = locs → W pp l ee ({ frames := 2, cells := 0, slots := 0, locals := 42 } : Room) ss mm ([.ref (q 0), .int t] : List Value).toArray bw mt cd X Y 0 0 QQ (F0 mm 0 ls []) → W pp l ee ({ frames := 2, cells := 0, slots := 0, locals := 42 } : Room) ss mm ([.ref (q 0), .int t] : List Value).toArray bw mt cd ss.heap [] 0 0 QQ (F0 mm 0 ls []) := fun X Y hX hY h => by rw [hX, hY, eH, eL] at h; exact h
  refine goal H locs rfl rfl ?_
  clear goal eH eL
  obtain ⟨hx, hb, hml, hown, hts, hlocks⟩ := hfx
  have hown : ss.vm.findClass RX4 = some mm.cls := hown
  have hl : lv_has ls 2 [(0, .ref (q 0)), (1, .int t)] := hl
  refine lv_aload_n hx hb dX4_colours_0 rfl (lv_at hl 0 rfl) ?_
  refine lv_iload_n hx hb dX4_colours_1 rfl (lv_at hl 1 rfl) ?_
  refine gc_Si (va_runS (As := [.int t]) (rest := [.ref (q 0)]) ⟨hx, hb, hml, hown, hts⟩ (c_X4_isTile l D cy t) (va_cwS 1 hts gX4_colours_X4_isTile rfl rfl rfl (by decide +kernel) ⟨Nat.le_of_ble_eq_true rfl, Nat.le_of_ble_eq_true rfl⟩) (gpSR hG (hP.sub [] rfl)) rfl rfl hl.1 rfl (lv_room (Nat.le_of_ble_eq_true rfl)) dX4_colours_2 ⟨Nat.zero_le _, Nat.zero_le _⟩) ?_
  refine lv_if_eq (tgt := 12) hx hb dX4_colours_5 (by decide) (fun c_5 => ?_) (fun c_5 => ?_)
  · skip
    have c_5 : ¬ (pIn t 0 11) := gb_eq0.mp c_5
    refine lv_iconst (v := nI 1) hx hb dX4_colours_12 (by decide) ?_
    refine gc_Wi (wn := fun u => [(q 0, eMod (nI 1) q U)]) (wr := []) (va_runV (As := [.int (nI 1)]) (rest := []) ⟨hx, hb, hml, hown, hts⟩ (c_X4_goesWell l D cy H.size q T U 1 (by decide)) (cwV 1 hts gX4_colours_X4_goesWell rfl rfl rfl (by decide +kernel) ⟨Nat.le_of_ble_eq_true rfl, Nat.le_of_ble_eq_true rfl⟩) (gpVI (ci := 4) (q0 := 0) hG (hP.sub [0] rfl) (hD.sub [0] (by decide) rfl) rfl rfl) rfl rfl hl.1 rfl (lv_room (Nat.le_of_ble_eq_true rfl)) dX4_colours_13 ⟨Nat.zero_le _, Nat.zero_le _⟩) hP hD hS hA [0] [] [0] rfl rfl (by decide) (by decide) (fun _ => rfl) (by decide) (fun r_13 _u H locs hw_13 hP hD hS => ?_)
    have hP : va_P D vwCl [(q 0, eMod (nI 1) q U)] H := hP
    have hD : va_D AA [(q 0, eMod (nI 1) q U)] := hD
    obtain ⟨hr_13, hw_13⟩ := hw_13
    refine g_ti (y := gb (1 = 0)) hr_13 ?_
    have hw_13 : True := hw_13
    refine lv_if_ne (tgt := 21) hx hb dX4_colours_16 (by decide) (fun c_16 => ?_) (fun c_16 => ?_)
    · skip
      have c_16 : 1 = 0 := gb_ne0.mp c_16
      exact absurd c_16 (by decide)
    · skip
      have c_16 : ¬ (1 = 0) := gb_eq0.mp c_16
      refine lv_iconst (v := nI 0) hx hb dX4_colours_19 (by decide) ?_
      exact hret _ _ _ _ _ () dX4_colours_20 (⟨rfl, trivial⟩) (hP.sub [0] rfl) (hD.sub [0] (by decide) rfl) hS
  · skip
    have c_5 : pIn t 0 11 := gb_ne0.mp c_5
    exact absurd c_5 (hn)
set_option maxHeartbeats 4000000 in
set_option maxRecDepth 100000 in
theorem c_X4_runs_b (l : Launch) (D : va_G) (cy : Nat → ClassId) (sz : Nat) (q : Nat → Nat) (T U : Int32) (t : Int32) (hn : ¬ pIn t 0 11) : Met l yX4_runs wsX4_runs ({ frames := 2, cells := 0, slots := 0, locals := 42 } : Room) (va_Pc [.ref (q 0), .int t] (gI D (gT cy) [(q 0, eMod T q U)] sz)) (va_Qi (fun (r9 : Int32) (u : Unit) => r9 = nI 0 ∧ ((True))) (gO D (fun u : Unit => [(q 0, eMod (nI 1) q U)]) (va_A [(q 0, eMod T q U)] sz)) (va_A [(q 0, eMod T q U)] sz)) 0 0 (va_A [(q 0, eMod T q U)] sz) := by
  refine gW_i (cc := cX4_runs) (maxL := 2) (ty := .int) (by decide) rfl (Nat.le_of_ble_eq_true rfl) (fun v u hv => by rfl) ?_
  intro pp ee ss mm bw mt cd QQ AA ls hfx hP hG hD hA hret hl
  have hS : va_S AA ss.heap ss.heap [] := va_S.rf
  obtain ⟨H, eH⟩ : ∃ H, H = ss.heap := ⟨_, rfl⟩
  obtain ⟨locs, eL⟩ : ∃ L : List Loc, L = [] := ⟨_, rfl⟩
  have hP : va_P D vwCl [(q 0, eMod T q U)] H := by rw [eH]; exact hP
  have hS : va_S AA ss.heap H locs := by rw [eH, eL]; exact hS
  have goal : ∀ X Y, X = H → Y = locs → W pp l ee ({ frames := 2, cells := 0, slots := 0, locals := 42 } : Room) ss mm ([.ref (q 0), .int t] : List Value).toArray bw mt cd X Y 0 0 QQ (F0 mm 0 ls []) → W pp l ee ({ frames := 2, cells := 0, slots := 0, locals := 42 } : Room) ss mm ([.ref (q 0), .int t] : List Value).toArray bw mt cd ss.heap [] 0 0 QQ (F0 mm 0 ls []) := fun X Y hX hY h => by rw [hX, hY, eH, eL] at h; exact h
  refine goal H locs rfl rfl ?_
  clear goal eH eL
  obtain ⟨hx, hb, hml, hown, hts, hlocks⟩ := hfx
  have hown : ss.vm.findClass RX4 = some mm.cls := hown
  have hl : lv_has ls 2 [(0, .ref (q 0)), (1, .int t)] := hl
  refine lv_aload_n hx hb dX4_runs_0 rfl (lv_at hl 0 rfl) ?_
  refine lv_iload_n hx hb dX4_runs_1 rfl (lv_at hl 1 rfl) ?_
  refine gc_Si (va_runS (As := [.int t]) (rest := [.ref (q 0)]) ⟨hx, hb, hml, hown, hts⟩ (c_X4_isTile l D cy t) (va_cwS 1 hts gX4_runs_X4_isTile rfl rfl rfl (by decide +kernel) ⟨Nat.le_of_ble_eq_true rfl, Nat.le_of_ble_eq_true rfl⟩) (gpSR hG (hP.sub [] rfl)) rfl rfl hl.1 rfl (lv_room (Nat.le_of_ble_eq_true rfl)) dX4_runs_2 ⟨Nat.zero_le _, Nat.zero_le _⟩) ?_
  refine lv_if_eq (tgt := 12) hx hb dX4_runs_5 (by decide) (fun c_5 => ?_) (fun c_5 => ?_)
  · skip
    have c_5 : ¬ (pIn t 0 11) := gb_eq0.mp c_5
    refine lv_iconst (v := nI 1) hx hb dX4_runs_12 (by decide) ?_
    refine gc_Wi (wn := fun u => [(q 0, eMod (nI 1) q U)]) (wr := []) (va_runV (As := [.int (nI 1)]) (rest := []) ⟨hx, hb, hml, hown, hts⟩ (c_X4_goesWell l D cy H.size q T U 1 (by decide)) (cwV 1 hts gX4_runs_X4_goesWell rfl rfl rfl (by decide +kernel) ⟨Nat.le_of_ble_eq_true rfl, Nat.le_of_ble_eq_true rfl⟩) (gpVI (ci := 4) (q0 := 0) hG (hP.sub [0] rfl) (hD.sub [0] (by decide) rfl) rfl rfl) rfl rfl hl.1 rfl (lv_room (Nat.le_of_ble_eq_true rfl)) dX4_runs_13 ⟨Nat.zero_le _, Nat.zero_le _⟩) hP hD hS hA [0] [] [0] rfl rfl (by decide) (by decide) (fun _ => rfl) (by decide) (fun r_13 _u H locs hw_13 hP hD hS => ?_)
    have hP : va_P D vwCl [(q 0, eMod (nI 1) q U)] H := hP
    have hD : va_D AA [(q 0, eMod (nI 1) q U)] := hD
    obtain ⟨hr_13, hw_13⟩ := hw_13
    refine g_ti (y := gb (1 = 0)) hr_13 ?_
    have hw_13 : True := hw_13
    refine lv_if_ne (tgt := 21) hx hb dX4_runs_16 (by decide) (fun c_16 => ?_) (fun c_16 => ?_)
    · skip
      have c_16 : 1 = 0 := gb_ne0.mp c_16
      exact absurd c_16 (by decide)
    · skip
      have c_16 : ¬ (1 = 0) := gb_eq0.mp c_16
      refine lv_iconst (v := nI 0) hx hb dX4_runs_19 (by decide) ?_
      exact hret _ _ _ _ _ () dX4_runs_20 (⟨rfl, trivial⟩) (hP.sub [0] rfl) (hD.sub [0] (by decide) rfl) hS
  · skip
    have c_5 : pIn t 0 11 := gb_ne0.mp c_5
    exact absurd c_5 (hn)
set_option maxHeartbeats 4000000 in
set_option maxRecDepth 100000 in
theorem c_X4_way_b (l : Launch) (D : va_G) (cy : Nat → ClassId) (sz : Nat) (q : Nat → Nat) (T U : Int32) (i t : Int32) (hn : ¬ (pIn i 0 1 ∧ pIn t 0 11)) : Met l yX4_way wsX4_way ({ frames := 2, cells := 0, slots := 0, locals := 42 } : Room) (va_Pc [.ref (q 0), .int i, .int t] (gI D (gT cy) [(q 0, eMod T q U)] sz)) (va_Qi (fun (r9 : Int32) (u : Unit) => r9 = nI 0 ∧ ((True))) (gO D (fun u : Unit => [(q 0, eMod (nI 1) q U)]) (va_A [(q 0, eMod T q U)] sz)) (va_A [(q 0, eMod T q U)] sz)) 0 0 (va_A [(q 0, eMod T q U)] sz) := by
  refine gW_i (cc := cX4_way) (maxL := 4) (ty := .int) (by decide) rfl (Nat.le_of_ble_eq_true rfl) (fun v u hv => by rfl) ?_
  intro pp ee ss mm bw mt cd QQ AA ls hfx hP hG hD hA hret hl
  have hS : va_S AA ss.heap ss.heap [] := va_S.rf
  obtain ⟨H, eH⟩ : ∃ H, H = ss.heap := ⟨_, rfl⟩
  obtain ⟨locs, eL⟩ : ∃ L : List Loc, L = [] := ⟨_, rfl⟩
  have hP : va_P D vwCl [(q 0, eMod T q U)] H := by rw [eH]; exact hP
  have hS : va_S AA ss.heap H locs := by rw [eH, eL]; exact hS
  have goal : ∀ X Y, X = H → Y = locs → W pp l ee ({ frames := 2, cells := 0, slots := 0, locals := 42 } : Room) ss mm ([.ref (q 0), .int i, .int t] : List Value).toArray bw mt cd X Y 0 0 QQ (F0 mm 0 ls []) → W pp l ee ({ frames := 2, cells := 0, slots := 0, locals := 42 } : Room) ss mm ([.ref (q 0), .int i, .int t] : List Value).toArray bw mt cd ss.heap [] 0 0 QQ (F0 mm 0 ls []) := fun X Y hX hY h => by rw [hX, hY, eH, eL] at h; exact h
  refine goal H locs rfl rfl ?_
  clear goal eH eL
  obtain ⟨hx, hb, hml, hown, hts, hlocks⟩ := hfx
  have hown : ss.vm.findClass RX4 = some mm.cls := hown
  have hl : lv_has ls 4 [(0, .ref (q 0)), (1, .int i), (2, .int t)] := hl
  refine lv_iload_n hx hb dX4_way_0 rfl (lv_at hl 1 rfl) ?_
  refine gc_Si (va_runS (As := [.int i]) (rest := []) ⟨hx, hb, hml, hown, hts⟩ (c_X4_isClient l D cy i) (va_cwS 1 hts gX4_way_X4_isClient rfl rfl rfl (by decide +kernel) ⟨Nat.le_of_ble_eq_true rfl, Nat.le_of_ble_eq_true rfl⟩) (gpSR hG (hP.sub [] rfl)) rfl rfl hl.1 rfl (lv_room (Nat.le_of_ble_eq_true rfl)) dX4_way_1 ⟨Nat.zero_le _, Nat.zero_le _⟩) ?_
  refine lv_if_eq (tgt := 18) hx hb dX4_way_4 (by decide) (fun c_4 => ?_) (fun c_4 => ?_)
  · skip
    have c_4 : ¬ (pIn i 0 1) := gb_eq0.mp c_4
    refine lv_iconst (v := nI 0) hx hb dX4_way_18 (by decide) ?_
    refine lv_istore_n (lv' := [(3, .int (nI 0)), (0, .ref (q 0)), (1, .int i), (2, .int t)]) hx hb dX4_way_19 rfl hl (by decide) rfl (fun ls hl => ?_)
    refine lv_aload_n hx hb dX4_way_20 rfl (lv_at hl 1 rfl) ?_
    refine lv_iload_n hx hb dX4_way_21 rfl (lv_at hl 0 rfl) ?_
    refine lv_if_ne (tgt := 29) hx hb dX4_way_22 (by decide) (fun c_22 => ?_) (fun c_22 => ?_)
    · skip
      have c_22 : ¬ 0 = 0 := fun z => c_22 ((nI_eq (a := 0) (b := 0) (by omega) (by omega)).mpr z)
      exact absurd c_22 (by decide)
    · skip
      have c_22 : 0 = 0 := (nI_eq (a := 0) (b := 0) (by omega) (by omega)).mp c_22
      refine lv_iconst (v := nI 1) hx hb dX4_way_25 (by decide) ?_
      refine lv_goto (tgt := 43) hx hb dX4_way_26 (by decide) ?_
      refine gc_Wi (wn := fun u => [(q 0, eMod (nI 1) q U)]) (wr := []) (va_runV (As := [.int (nI 1)]) (rest := []) ⟨hx, hb, hml, hown, hts⟩ (c_X4_goesWell l D cy H.size q T U 1 (by decide)) (cwV 1 hts gX4_way_X4_goesWell rfl rfl rfl (by decide +kernel) ⟨Nat.le_of_ble_eq_true rfl, Nat.le_of_ble_eq_true rfl⟩) (gpVI (ci := 4) (q0 := 0) hG (hP.sub [0] rfl) (hD.sub [0] (by decide) rfl) rfl rfl) rfl rfl hl.1 rfl (lv_room (Nat.le_of_ble_eq_true rfl)) dX4_way_43 ⟨Nat.zero_le _, Nat.zero_le _⟩) hP hD hS hA [0] [] [0] rfl rfl (by decide) (by decide) (fun _ => rfl) (by decide) (fun r_43 _u H locs hw_43 hP hD hS => ?_)
      have hP : va_P D vwCl [(q 0, eMod (nI 1) q U)] H := hP
      have hD : va_D AA [(q 0, eMod (nI 1) q U)] := hD
      obtain ⟨hr_43, hw_43⟩ := hw_43
      refine g_ti (y := gb (1 = 0)) hr_43 ?_
      have hw_43 : True := hw_43
      refine lv_if_ne (tgt := 51) hx hb dX4_way_46 (by decide) (fun c_46 => ?_) (fun c_46 => ?_)
      · skip
        have c_46 : 1 = 0 := gb_ne0.mp c_46
        exact absurd c_46 (by decide)
      · skip
        have c_46 : ¬ (1 = 0) := gb_eq0.mp c_46
        refine lv_iconst (v := nI 0) hx hb dX4_way_49 (by decide) ?_
        exact hret _ _ _ _ _ () dX4_way_50 (⟨rfl, trivial⟩) (hP.sub [0] rfl) (hD.sub [0] (by decide) rfl) hS
  · skip
    have c_4 : pIn i 0 1 := gb_ne0.mp c_4
    refine lv_iload_n hx hb dX4_way_7 rfl (lv_at hl 2 rfl) ?_
    refine gc_Si (va_runS (As := [.int t]) (rest := []) ⟨hx, hb, hml, hown, hts⟩ (c_X4_isTile l D cy t) (va_cwS 1 hts gX4_way_X4_isTile rfl rfl rfl (by decide +kernel) ⟨Nat.le_of_ble_eq_true rfl, Nat.le_of_ble_eq_true rfl⟩) (gpSR hG (hP.sub [] rfl)) rfl rfl hl.1 rfl (lv_room (Nat.le_of_ble_eq_true rfl)) dX4_way_8 ⟨Nat.zero_le _, Nat.zero_le _⟩) ?_
    refine lv_if_eq (tgt := 18) hx hb dX4_way_11 (by decide) (fun c_11 => ?_) (fun c_11 => ?_)
    · skip
      have c_11 : ¬ (pIn t 0 11) := gb_eq0.mp c_11
      refine lv_iconst (v := nI 0) hx hb dX4_way_18 (by decide) ?_
      refine lv_istore_n (lv' := [(3, .int (nI 0)), (0, .ref (q 0)), (1, .int i), (2, .int t)]) hx hb dX4_way_19 rfl hl (by decide) rfl (fun ls hl => ?_)
      refine lv_aload_n hx hb dX4_way_20 rfl (lv_at hl 1 rfl) ?_
      refine lv_iload_n hx hb dX4_way_21 rfl (lv_at hl 0 rfl) ?_
      refine lv_if_ne (tgt := 29) hx hb dX4_way_22 (by decide) (fun c_22 => ?_) (fun c_22 => ?_)
      · skip
        have c_22 : ¬ 0 = 0 := fun z => c_22 ((nI_eq (a := 0) (b := 0) (by omega) (by omega)).mpr z)
        exact absurd c_22 (by decide)
      · skip
        have c_22 : 0 = 0 := (nI_eq (a := 0) (b := 0) (by omega) (by omega)).mp c_22
        refine lv_iconst (v := nI 1) hx hb dX4_way_25 (by decide) ?_
        refine lv_goto (tgt := 43) hx hb dX4_way_26 (by decide) ?_
        refine gc_Wi (wn := fun u => [(q 0, eMod (nI 1) q U)]) (wr := []) (va_runV (As := [.int (nI 1)]) (rest := []) ⟨hx, hb, hml, hown, hts⟩ (c_X4_goesWell l D cy H.size q T U 1 (by decide)) (cwV 1 hts gX4_way_X4_goesWell rfl rfl rfl (by decide +kernel) ⟨Nat.le_of_ble_eq_true rfl, Nat.le_of_ble_eq_true rfl⟩) (gpVI (ci := 4) (q0 := 0) hG (hP.sub [0] rfl) (hD.sub [0] (by decide) rfl) rfl rfl) rfl rfl hl.1 rfl (lv_room (Nat.le_of_ble_eq_true rfl)) dX4_way_43 ⟨Nat.zero_le _, Nat.zero_le _⟩) hP hD hS hA [0] [] [0] rfl rfl (by decide) (by decide) (fun _ => rfl) (by decide) (fun r_43 _u H locs hw_43 hP hD hS => ?_)
        have hP : va_P D vwCl [(q 0, eMod (nI 1) q U)] H := hP
        have hD : va_D AA [(q 0, eMod (nI 1) q U)] := hD
        obtain ⟨hr_43, hw_43⟩ := hw_43
        refine g_ti (y := gb (1 = 0)) hr_43 ?_
        have hw_43 : True := hw_43
        refine lv_if_ne (tgt := 51) hx hb dX4_way_46 (by decide) (fun c_46 => ?_) (fun c_46 => ?_)
        · skip
          have c_46 : 1 = 0 := gb_ne0.mp c_46
          exact absurd c_46 (by decide)
        · skip
          have c_46 : ¬ (1 = 0) := gb_eq0.mp c_46
          refine lv_iconst (v := nI 0) hx hb dX4_way_49 (by decide) ?_
          exact hret _ _ _ _ _ () dX4_way_50 (⟨rfl, trivial⟩) (hP.sub [0] rfl) (hD.sub [0] (by decide) rfl) hS
    · skip
      have c_11 : pIn t 0 11 := gb_ne0.mp c_11
      exact absurd c_11 (fun z => hn ⟨c_4, z⟩)
theorem iX4_way_X4 : ∀ w ∈ wsX40, w ∈ wsX4_way := by decide +kernel
set_option maxHeartbeats 4000000 in
set_option maxRecDepth 100000 in
theorem c_X4_way_s (l : Launch) (D : va_G) (cy : Nat → ClassId) (sz : Nat) (q : Nat → Nat) (T U : Int32) (i t : Nat) (is : Nat → Int32) (J : Prop) (hi : i < 2) (hj : is i = gb (J)) (hJ : ¬ J) (ht9 : t < 12) : Met l yX4_way wsX4_way ({ frames := 2, cells := 0, slots := 0, locals := 42 } : Room) (va_Pc [.ref (q 0), .int (nI i), .int (nI t)] (gI D (gT cy) [(q 0, eMod T q U), (q 3, eZ cy 2 is)] sz)) (va_Qi (fun (r9 : Int32) (u : Unit) => r9 = nI 0 ∧ ((True))) (gO D (fun u : Unit => [(q 0, eMod (nI 2) q U), (q 3, eZ cy 2 is)]) (va_A [(q 0, eMod T q U), (q 3, eZ cy 2 is)] sz)) (va_A [(q 0, eMod T q U), (q 3, eZ cy 2 is)] sz)) 0 0 (va_A [(q 0, eMod T q U), (q 3, eZ cy 2 is)] sz) := by
  refine gW_i (cc := cX4_way) (maxL := 4) (ty := .int) (by decide) rfl (Nat.le_of_ble_eq_true rfl) (fun v u hv => by rfl) ?_
  intro pp ee ss mm bw mt cd QQ AA ls hfx hP hG hD hA hret hl
  have hS : va_S AA ss.heap ss.heap [] := va_S.rf
  obtain ⟨H, eH⟩ : ∃ H, H = ss.heap := ⟨_, rfl⟩
  obtain ⟨locs, eL⟩ : ∃ L : List Loc, L = [] := ⟨_, rfl⟩
  have hP : va_P D vwCl [(q 0, eMod T q U), (q 3, eZ cy 2 is)] H := by rw [eH]; exact hP
  have hS : va_S AA ss.heap H locs := by rw [eH, eL]; exact hS
  have goal : ∀ X Y, X = H → Y = locs → W pp l ee ({ frames := 2, cells := 0, slots := 0, locals := 42 } : Room) ss mm ([.ref (q 0), .int (nI i), .int (nI t)] : List Value).toArray bw mt cd X Y 0 0 QQ (F0 mm 0 ls []) → W pp l ee ({ frames := 2, cells := 0, slots := 0, locals := 42 } : Room) ss mm ([.ref (q 0), .int (nI i), .int (nI t)] : List Value).toArray bw mt cd ss.heap [] 0 0 QQ (F0 mm 0 ls []) := fun X Y hX hY h => by rw [hX, hY, eH, eL] at h; exact h
  refine goal H locs rfl rfl ?_
  clear goal eH eL
  obtain ⟨hx, hb, hml, hown, hts, hlocks⟩ := hfx
  have hown : ss.vm.findClass RX4 = some mm.cls := hown
  have hl : lv_has ls 4 [(0, .ref (q 0)), (1, .int (nI i)), (2, .int (nI t))] := hl
  refine lv_iload_n hx hb dX4_way_0 rfl (lv_at hl 1 rfl) ?_
  refine gc_Si (va_runS (As := [.int (nI i)]) (rest := []) ⟨hx, hb, hml, hown, hts⟩ (c_X4_isClient l D cy (nI i)) (va_cwS 1 hts gX4_way_X4_isClient rfl rfl rfl (by decide +kernel) ⟨Nat.le_of_ble_eq_true rfl, Nat.le_of_ble_eq_true rfl⟩) (gpSR hG (hP.sub [] rfl)) rfl rfl hl.1 rfl (lv_room (Nat.le_of_ble_eq_true rfl)) dX4_way_1 ⟨Nat.zero_le _, Nat.zero_le _⟩) ?_
  refine lv_if_eq (tgt := 18) hx hb dX4_way_4 (by decide) (fun c_4 => ?_) (fun c_4 => ?_)
  · skip
    have c_4 : ¬ (pIn (nI i) 0 1) := gb_eq0.mp c_4
    exact absurd (ok_idx (n := 1) (by omega) (by decide)) c_4
  · skip
    have c_4 : pIn (nI i) 0 1 := gb_ne0.mp c_4
    refine lv_iload_n hx hb dX4_way_7 rfl (lv_at hl 2 rfl) ?_
    refine gc_Si (va_runS (As := [.int (nI t)]) (rest := []) ⟨hx, hb, hml, hown, hts⟩ (c_X4_isTile l D cy (nI t)) (va_cwS 1 hts gX4_way_X4_isTile rfl rfl rfl (by decide +kernel) ⟨Nat.le_of_ble_eq_true rfl, Nat.le_of_ble_eq_true rfl⟩) (gpSR hG (hP.sub [] rfl)) rfl rfl hl.1 rfl (lv_room (Nat.le_of_ble_eq_true rfl)) dX4_way_8 ⟨Nat.zero_le _, Nat.zero_le _⟩) ?_
    refine lv_if_eq (tgt := 18) hx hb dX4_way_11 (by decide) (fun c_11 => ?_) (fun c_11 => ?_)
    · skip
      have c_11 : ¬ (pIn (nI t) 0 11) := gb_eq0.mp c_11
      exact absurd (ok_idx (n := 11) (by omega) (by decide)) c_11
    · skip
      have c_11 : pIn (nI t) 0 11 := gb_ne0.mp c_11
      refine lv_iconst (v := nI 1) hx hb dX4_way_14 (by decide) ?_
      refine lv_goto (tgt := 19) hx hb dX4_way_15 (by decide) ?_
      refine lv_istore_n (lv' := [(3, .int (nI 1)), (0, .ref (q 0)), (1, .int (nI i)), (2, .int (nI t))]) hx hb dX4_way_19 rfl hl (by decide) rfl (fun ls hl => ?_)
      refine lv_aload_n hx hb dX4_way_20 rfl (lv_at hl 1 rfl) ?_
      refine lv_iload_n hx hb dX4_way_21 rfl (lv_at hl 0 rfl) ?_
      refine lv_if_ne (tgt := 29) hx hb dX4_way_22 (by decide) (fun c_22 => ?_) (fun c_22 => ?_)
      · skip
        have c_22 : ¬ 1 = 0 := fun z => c_22 ((nI_eq (a := 1) (b := 0) (by omega) (by omega)).mpr z)
        refine lv_aload_n hx hb dX4_way_29 rfl (lv_at hl 1 rfl) ?_
        refine va_get (D := D) (ci := 4) (v := .ref (q 3)) (C := RX4) (T := TX4) (N := 17) hx hb hts iX4_way_X4 hown hG.1 hP 0 rfl rfl 3 (by decide) (hts (.fieldLink RX4 16 "DirtyTilesModel" "isIn" "[Z") (by decide +kernel)) (fun _ h9 => h9) rfl dX4_way_30 ?_
        refine lv_iload_n hx hb dX4_way_33 rfl (lv_at hl 2 rfl) ?_
        refine g_zald hx hb hG hP 1 2 rfl rfl (k := i) (by omega) (by decide) dX4_way_34 ?_
        refine g_ti (y := gb (J)) (hj) ?_
        refine lv_if_eq (tgt := 42) hx hb dX4_way_35 (by decide) (fun c_35 => ?_) (fun c_35 => ?_)
        · skip
          have c_35 : ¬ (J) := gb_eq0.mp c_35
          refine lv_iconst (v := nI 2) hx hb dX4_way_42 (by decide) ?_
          refine gc_Wi (wn := fun u => [(q 0, eMod (nI 2) q U), (q 3, eZ cy 2 is)]) (wr := [(q 3, eZ cy 2 is)]) (va_runV (As := [.int (nI 2)]) (rest := []) ⟨hx, hb, hml, hown, hts⟩ (c_X4_goesWell l D cy H.size q T U 2 (by decide)) (cwV 1 hts gX4_way_X4_goesWell rfl rfl rfl (by decide +kernel) ⟨Nat.le_of_ble_eq_true rfl, Nat.le_of_ble_eq_true rfl⟩) (gpVI (ci := 4) (q0 := 0) hG (hP.sub [0] rfl) (hD.sub [0] (by decide) rfl) rfl rfl) rfl rfl hl.1 rfl (lv_room (Nat.le_of_ble_eq_true rfl)) dX4_way_43 ⟨Nat.zero_le _, Nat.zero_le _⟩) hP hD hS hA [0] [1] [1, 0] rfl rfl (by decide) (by decide) (fun _ => rfl) (by decide) (fun r_43 _u H locs hw_43 hP hD hS => ?_)
          have hP : va_P D vwCl [(q 0, eMod (nI 2) q U), (q 3, eZ cy 2 is)] H := hP
          have hD : va_D AA [(q 0, eMod (nI 2) q U), (q 3, eZ cy 2 is)] := hD
          obtain ⟨hr_43, hw_43⟩ := hw_43
          refine g_ti (y := gb (2 = 0)) hr_43 ?_
          have hw_43 : True := hw_43
          refine lv_if_ne (tgt := 51) hx hb dX4_way_46 (by decide) (fun c_46 => ?_) (fun c_46 => ?_)
          · skip
            have c_46 : 2 = 0 := gb_ne0.mp c_46
            exact absurd c_46 (by decide)
          · skip
            have c_46 : ¬ (2 = 0) := gb_eq0.mp c_46
            refine lv_iconst (v := nI 0) hx hb dX4_way_49 (by decide) ?_
            exact hret _ _ _ _ _ () dX4_way_50 (⟨rfl, trivial⟩) (hP.sub [0, 1] rfl) (hD.sub [0, 1] (by decide) rfl) hS
        · skip
          have c_35 : J := gb_ne0.mp c_35
          exact absurd c_35 (hJ)
      · skip
        have c_22 : 1 = 0 := (nI_eq (a := 1) (b := 0) (by omega) (by omega)).mp c_22
        exact absurd c_22 (by decide)
set_option maxHeartbeats 4000000 in
set_option maxRecDepth 100000 in
theorem c_X4_join_b (l : Launch) (D : va_G) (cy : Nat → ClassId) (sz : Nat) (q : Nat → Nat) (T U : Int32) (i : Int32) (hn : ¬ pIn i 0 1) : Met l yX4_join wsX4_join ({ frames := 2, cells := 0, slots := 0, locals := 42 } : Room) (va_Pc [.ref (q 0), .int i] (gI D (gT cy) [(q 0, eMod T q U)] sz)) (va_Qi (fun (r9 : Int32) (u : Unit) => r9 = nI 0 ∧ ((True))) (gO D (fun u : Unit => [(q 0, eMod (nI 1) q U)]) (va_A [(q 0, eMod T q U)] sz)) (va_A [(q 0, eMod T q U)] sz)) 0 0 (va_A [(q 0, eMod T q U)] sz) := by
  refine gW_i (cc := cX4_join) (maxL := 3) (ty := .int) (by decide) rfl (Nat.le_of_ble_eq_true rfl) (fun v u hv => by rfl) ?_
  intro pp ee ss mm bw mt cd QQ AA ls hfx hP hG hD hA hret hl
  have hS : va_S AA ss.heap ss.heap [] := va_S.rf
  obtain ⟨H, eH⟩ : ∃ H, H = ss.heap := ⟨_, rfl⟩
  obtain ⟨locs, eL⟩ : ∃ L : List Loc, L = [] := ⟨_, rfl⟩
  have hP : va_P D vwCl [(q 0, eMod T q U)] H := by rw [eH]; exact hP
  have hS : va_S AA ss.heap H locs := by rw [eH, eL]; exact hS
  have goal : ∀ X Y, X = H → Y = locs → W pp l ee ({ frames := 2, cells := 0, slots := 0, locals := 42 } : Room) ss mm ([.ref (q 0), .int i] : List Value).toArray bw mt cd X Y 0 0 QQ (F0 mm 0 ls []) → W pp l ee ({ frames := 2, cells := 0, slots := 0, locals := 42 } : Room) ss mm ([.ref (q 0), .int i] : List Value).toArray bw mt cd ss.heap [] 0 0 QQ (F0 mm 0 ls []) := fun X Y hX hY h => by rw [hX, hY, eH, eL] at h; exact h
  refine goal H locs rfl rfl ?_
  clear goal eH eL
  obtain ⟨hx, hb, hml, hown, hts, hlocks⟩ := hfx
  have hown : ss.vm.findClass RX4 = some mm.cls := hown
  have hl : lv_has ls 3 [(0, .ref (q 0)), (1, .int i)] := hl
  refine lv_aload_n hx hb dX4_join_0 rfl (lv_at hl 0 rfl) ?_
  refine lv_iload_n hx hb dX4_join_1 rfl (lv_at hl 1 rfl) ?_
  refine gc_Si (va_runS (As := [.int i]) (rest := [.ref (q 0)]) ⟨hx, hb, hml, hown, hts⟩ (c_X4_isClient l D cy i) (va_cwS 1 hts gX4_join_X4_isClient rfl rfl rfl (by decide +kernel) ⟨Nat.le_of_ble_eq_true rfl, Nat.le_of_ble_eq_true rfl⟩) (gpSR hG (hP.sub [] rfl)) rfl rfl hl.1 rfl (lv_room (Nat.le_of_ble_eq_true rfl)) dX4_join_2 ⟨Nat.zero_le _, Nat.zero_le _⟩) ?_
  refine lv_if_eq (tgt := 12) hx hb dX4_join_5 (by decide) (fun c_5 => ?_) (fun c_5 => ?_)
  · skip
    have c_5 : ¬ (pIn i 0 1) := gb_eq0.mp c_5
    refine lv_iconst (v := nI 1) hx hb dX4_join_12 (by decide) ?_
    refine gc_Wi (wn := fun u => [(q 0, eMod (nI 1) q U)]) (wr := []) (va_runV (As := [.int (nI 1)]) (rest := []) ⟨hx, hb, hml, hown, hts⟩ (c_X4_goesWell l D cy H.size q T U 1 (by decide)) (cwV 1 hts gX4_join_X4_goesWell rfl rfl rfl (by decide +kernel) ⟨Nat.le_of_ble_eq_true rfl, Nat.le_of_ble_eq_true rfl⟩) (gpVI (ci := 4) (q0 := 0) hG (hP.sub [0] rfl) (hD.sub [0] (by decide) rfl) rfl rfl) rfl rfl hl.1 rfl (lv_room (Nat.le_of_ble_eq_true rfl)) dX4_join_13 ⟨Nat.zero_le _, Nat.zero_le _⟩) hP hD hS hA [0] [] [0] rfl rfl (by decide) (by decide) (fun _ => rfl) (by decide) (fun r_13 _u H locs hw_13 hP hD hS => ?_)
    have hP : va_P D vwCl [(q 0, eMod (nI 1) q U)] H := hP
    have hD : va_D AA [(q 0, eMod (nI 1) q U)] := hD
    obtain ⟨hr_13, hw_13⟩ := hw_13
    refine g_ti (y := gb (1 = 0)) hr_13 ?_
    have hw_13 : True := hw_13
    refine lv_if_ne (tgt := 21) hx hb dX4_join_16 (by decide) (fun c_16 => ?_) (fun c_16 => ?_)
    · skip
      have c_16 : 1 = 0 := gb_ne0.mp c_16
      exact absurd c_16 (by decide)
    · skip
      have c_16 : ¬ (1 = 0) := gb_eq0.mp c_16
      refine lv_iconst (v := nI 0) hx hb dX4_join_19 (by decide) ?_
      exact hret _ _ _ _ _ () dX4_join_20 (⟨rfl, trivial⟩) (hP.sub [0] rfl) (hD.sub [0] (by decide) rfl) hS
  · skip
    have c_5 : pIn i 0 1 := gb_ne0.mp c_5
    exact absurd c_5 (hn)
set_option maxHeartbeats 4000000 in
set_option maxRecDepth 100000 in
theorem c_X4_ask_b (l : Launch) (D : va_G) (cy : Nat → ClassId) (sz : Nat) (q : Nat → Nat) (T U : Int32) (i b : Int32) (hn : ¬ (pIn i 0 1 ∧ pIn b 0 300)) : Met l yX4_ask wsX4_ask ({ frames := 2, cells := 0, slots := 0, locals := 42 } : Room) (va_Pc [.ref (q 0), .int i, .int b] (gI D (gT cy) [(q 0, eMod T q U)] sz)) (va_Qi (fun (r9 : Int32) (u : Unit) => r9 = nI 0 ∧ ((True))) (gO D (fun u : Unit => [(q 0, eMod (nI 1) q U)]) (va_A [(q 0, eMod T q U)] sz)) (va_A [(q 0, eMod T q U)] sz)) 0 0 (va_A [(q 0, eMod T q U)] sz) := by
  refine gW_i (cc := cX4_ask) (maxL := 5) (ty := .int) (by decide) rfl (Nat.le_of_ble_eq_true rfl) (fun v u hv => by rfl) ?_
  intro pp ee ss mm bw mt cd QQ AA ls hfx hP hG hD hA hret hl
  have hS : va_S AA ss.heap ss.heap [] := va_S.rf
  obtain ⟨H, eH⟩ : ∃ H, H = ss.heap := ⟨_, rfl⟩
  obtain ⟨locs, eL⟩ : ∃ L : List Loc, L = [] := ⟨_, rfl⟩
  have hP : va_P D vwCl [(q 0, eMod T q U)] H := by rw [eH]; exact hP
  have hS : va_S AA ss.heap H locs := by rw [eH, eL]; exact hS
  have goal : ∀ X Y, X = H → Y = locs → W pp l ee ({ frames := 2, cells := 0, slots := 0, locals := 42 } : Room) ss mm ([.ref (q 0), .int i, .int b] : List Value).toArray bw mt cd X Y 0 0 QQ (F0 mm 0 ls []) → W pp l ee ({ frames := 2, cells := 0, slots := 0, locals := 42 } : Room) ss mm ([.ref (q 0), .int i, .int b] : List Value).toArray bw mt cd ss.heap [] 0 0 QQ (F0 mm 0 ls []) := fun X Y hX hY h => by rw [hX, hY, eH, eL] at h; exact h
  refine goal H locs rfl rfl ?_
  clear goal eH eL
  obtain ⟨hx, hb, hml, hown, hts, hlocks⟩ := hfx
  have hown : ss.vm.findClass RX4 = some mm.cls := hown
  have hl : lv_has ls 5 [(0, .ref (q 0)), (1, .int i), (2, .int b)] := hl
  refine lv_iload_n hx hb dX4_ask_0 rfl (lv_at hl 1 rfl) ?_
  refine gc_Si (va_runS (As := [.int i]) (rest := []) ⟨hx, hb, hml, hown, hts⟩ (c_X4_isClient l D cy i) (va_cwS 1 hts gX4_ask_X4_isClient rfl rfl rfl (by decide +kernel) ⟨Nat.le_of_ble_eq_true rfl, Nat.le_of_ble_eq_true rfl⟩) (gpSR hG (hP.sub [] rfl)) rfl rfl hl.1 rfl (lv_room (Nat.le_of_ble_eq_true rfl)) dX4_ask_1 ⟨Nat.zero_le _, Nat.zero_le _⟩) ?_
  refine lv_if_eq (tgt := 22) hx hb dX4_ask_4 (by decide) (fun c_4 => ?_) (fun c_4 => ?_)
  · skip
    have c_4 : ¬ (pIn i 0 1) := gb_eq0.mp c_4
    refine lv_iconst (v := nI 0) hx hb dX4_ask_22 (by decide) ?_
    refine lv_istore_n (lv' := [(3, .int (nI 0)), (0, .ref (q 0)), (1, .int i), (2, .int b)]) hx hb dX4_ask_23 rfl hl (by decide) rfl (fun ls hl => ?_)
    refine lv_aload_n hx hb dX4_ask_24 rfl (lv_at hl 1 rfl) ?_
    refine lv_iload_n hx hb dX4_ask_25 rfl (lv_at hl 0 rfl) ?_
    refine lv_if_ne (tgt := 33) hx hb dX4_ask_26 (by decide) (fun c_26 => ?_) (fun c_26 => ?_)
    · skip
      have c_26 : ¬ 0 = 0 := fun z => c_26 ((nI_eq (a := 0) (b := 0) (by omega) (by omega)).mpr z)
      exact absurd c_26 (by decide)
    · skip
      have c_26 : 0 = 0 := (nI_eq (a := 0) (b := 0) (by omega) (by omega)).mp c_26
      refine lv_iconst (v := nI 1) hx hb dX4_ask_29 (by decide) ?_
      refine lv_goto (tgt := 56) hx hb dX4_ask_30 (by decide) ?_
      refine gc_Wi (wn := fun u => [(q 0, eMod (nI 1) q U)]) (wr := []) (va_runV (As := [.int (nI 1)]) (rest := []) ⟨hx, hb, hml, hown, hts⟩ (c_X4_goesWell l D cy H.size q T U 1 (by decide)) (cwV 1 hts gX4_ask_X4_goesWell rfl rfl rfl (by decide +kernel) ⟨Nat.le_of_ble_eq_true rfl, Nat.le_of_ble_eq_true rfl⟩) (gpVI (ci := 4) (q0 := 0) hG (hP.sub [0] rfl) (hD.sub [0] (by decide) rfl) rfl rfl) rfl rfl hl.1 rfl (lv_room (Nat.le_of_ble_eq_true rfl)) dX4_ask_56 ⟨Nat.zero_le _, Nat.zero_le _⟩) hP hD hS hA [0] [] [0] rfl rfl (by decide) (by decide) (fun _ => rfl) (by decide) (fun r_56 _u H locs hw_56 hP hD hS => ?_)
      have hP : va_P D vwCl [(q 0, eMod (nI 1) q U)] H := hP
      have hD : va_D AA [(q 0, eMod (nI 1) q U)] := hD
      obtain ⟨hr_56, hw_56⟩ := hw_56
      refine g_ti (y := gb (1 = 0)) hr_56 ?_
      have hw_56 : True := hw_56
      refine lv_if_ne (tgt := 64) hx hb dX4_ask_59 (by decide) (fun c_59 => ?_) (fun c_59 => ?_)
      · skip
        have c_59 : 1 = 0 := gb_ne0.mp c_59
        exact absurd c_59 (by decide)
      · skip
        have c_59 : ¬ (1 = 0) := gb_eq0.mp c_59
        refine lv_iconst (v := nI 0) hx hb dX4_ask_62 (by decide) ?_
        exact hret _ _ _ _ _ () dX4_ask_63 (⟨rfl, trivial⟩) (hP.sub [0] rfl) (hD.sub [0] (by decide) rfl) hS
  · skip
    have c_4 : pIn i 0 1 := gb_ne0.mp c_4
    refine lv_iload_n hx hb dX4_ask_7 rfl (lv_at hl 2 rfl) ?_
    refine lv_iconst (v := nI 0) hx hb dX4_ask_8 (by decide) ?_
    refine lv_sipush (v := nI 300) hx hb dX4_ask_9 (by decide) ?_
    refine gc_Si (va_runS (As := [.int b, .int (nI 0), .int (nI 300)]) (rest := []) ⟨hx, hb, hml, hown, hts⟩ (c_X4_in l D cy b (nI 0) (nI 300)) (va_cwS 3 hts gX4_ask_X4_in rfl rfl rfl (by decide +kernel) ⟨Nat.le_of_ble_eq_true rfl, Nat.le_of_ble_eq_true rfl⟩) (gpSR hG (hP.sub [] rfl)) rfl rfl hl.1 rfl (lv_room (Nat.le_of_ble_eq_true rfl)) dX4_ask_12 ⟨Nat.zero_le _, Nat.zero_le _⟩) ?_
    refine g_ti (y := gb (pIn b 0 300)) ((congrArg (fun z => gb (pIn b z (nI 300 : Int32).toInt)) (by decide : (nI 0 : Int32).toInt = 0)).trans (congrArg (fun z => gb (pIn b 0 z)) (by decide : (nI 300 : Int32).toInt = 300))) ?_
    refine lv_if_eq (tgt := 22) hx hb dX4_ask_15 (by decide) (fun c_15 => ?_) (fun c_15 => ?_)
    · skip
      have c_15 : ¬ (pIn b 0 300) := gb_eq0.mp c_15
      refine lv_iconst (v := nI 0) hx hb dX4_ask_22 (by decide) ?_
      refine lv_istore_n (lv' := [(3, .int (nI 0)), (0, .ref (q 0)), (1, .int i), (2, .int b)]) hx hb dX4_ask_23 rfl hl (by decide) rfl (fun ls hl => ?_)
      refine lv_aload_n hx hb dX4_ask_24 rfl (lv_at hl 1 rfl) ?_
      refine lv_iload_n hx hb dX4_ask_25 rfl (lv_at hl 0 rfl) ?_
      refine lv_if_ne (tgt := 33) hx hb dX4_ask_26 (by decide) (fun c_26 => ?_) (fun c_26 => ?_)
      · skip
        have c_26 : ¬ 0 = 0 := fun z => c_26 ((nI_eq (a := 0) (b := 0) (by omega) (by omega)).mpr z)
        exact absurd c_26 (by decide)
      · skip
        have c_26 : 0 = 0 := (nI_eq (a := 0) (b := 0) (by omega) (by omega)).mp c_26
        refine lv_iconst (v := nI 1) hx hb dX4_ask_29 (by decide) ?_
        refine lv_goto (tgt := 56) hx hb dX4_ask_30 (by decide) ?_
        refine gc_Wi (wn := fun u => [(q 0, eMod (nI 1) q U)]) (wr := []) (va_runV (As := [.int (nI 1)]) (rest := []) ⟨hx, hb, hml, hown, hts⟩ (c_X4_goesWell l D cy H.size q T U 1 (by decide)) (cwV 1 hts gX4_ask_X4_goesWell rfl rfl rfl (by decide +kernel) ⟨Nat.le_of_ble_eq_true rfl, Nat.le_of_ble_eq_true rfl⟩) (gpVI (ci := 4) (q0 := 0) hG (hP.sub [0] rfl) (hD.sub [0] (by decide) rfl) rfl rfl) rfl rfl hl.1 rfl (lv_room (Nat.le_of_ble_eq_true rfl)) dX4_ask_56 ⟨Nat.zero_le _, Nat.zero_le _⟩) hP hD hS hA [0] [] [0] rfl rfl (by decide) (by decide) (fun _ => rfl) (by decide) (fun r_56 _u H locs hw_56 hP hD hS => ?_)
        have hP : va_P D vwCl [(q 0, eMod (nI 1) q U)] H := hP
        have hD : va_D AA [(q 0, eMod (nI 1) q U)] := hD
        obtain ⟨hr_56, hw_56⟩ := hw_56
        refine g_ti (y := gb (1 = 0)) hr_56 ?_
        have hw_56 : True := hw_56
        refine lv_if_ne (tgt := 64) hx hb dX4_ask_59 (by decide) (fun c_59 => ?_) (fun c_59 => ?_)
        · skip
          have c_59 : 1 = 0 := gb_ne0.mp c_59
          exact absurd c_59 (by decide)
        · skip
          have c_59 : ¬ (1 = 0) := gb_eq0.mp c_59
          refine lv_iconst (v := nI 0) hx hb dX4_ask_62 (by decide) ?_
          exact hret _ _ _ _ _ () dX4_ask_63 (⟨rfl, trivial⟩) (hP.sub [0] rfl) (hD.sub [0] (by decide) rfl) hS
    · skip
      have c_15 : pIn b 0 300 := gb_ne0.mp c_15
      exact absurd c_15 (fun z => hn ⟨c_4, z⟩)
theorem iX4_ask_X4 : ∀ w ∈ wsX40, w ∈ wsX4_ask := by decide +kernel
set_option maxHeartbeats 4000000 in
set_option maxRecDepth 100000 in
theorem c_X4_ask_s (l : Launch) (D : va_G) (cy : Nat → ClassId) (sz : Nat) (q : Nat → Nat) (T U : Int32) (i b : Nat) (is : Nat → Int32) (J : Prop) (hi : i < 2) (hj : is i = gb (J)) (hJ : ¬ J) (hb9 : b ≤ 300) : Met l yX4_ask wsX4_ask ({ frames := 2, cells := 0, slots := 0, locals := 42 } : Room) (va_Pc [.ref (q 0), .int (nI i), .int (nI b)] (gI D (gT cy) [(q 0, eMod T q U), (q 3, eZ cy 2 is)] sz)) (va_Qi (fun (r9 : Int32) (u : Unit) => r9 = nI 0 ∧ ((True))) (gO D (fun u : Unit => [(q 0, eMod (nI 2) q U), (q 3, eZ cy 2 is)]) (va_A [(q 0, eMod T q U), (q 3, eZ cy 2 is)] sz)) (va_A [(q 0, eMod T q U), (q 3, eZ cy 2 is)] sz)) 0 0 (va_A [(q 0, eMod T q U), (q 3, eZ cy 2 is)] sz) := by
  refine gW_i (cc := cX4_ask) (maxL := 5) (ty := .int) (by decide) rfl (Nat.le_of_ble_eq_true rfl) (fun v u hv => by rfl) ?_
  intro pp ee ss mm bw mt cd QQ AA ls hfx hP hG hD hA hret hl
  have hS : va_S AA ss.heap ss.heap [] := va_S.rf
  obtain ⟨H, eH⟩ : ∃ H, H = ss.heap := ⟨_, rfl⟩
  obtain ⟨locs, eL⟩ : ∃ L : List Loc, L = [] := ⟨_, rfl⟩
  have hP : va_P D vwCl [(q 0, eMod T q U), (q 3, eZ cy 2 is)] H := by rw [eH]; exact hP
  have hS : va_S AA ss.heap H locs := by rw [eH, eL]; exact hS
  have goal : ∀ X Y, X = H → Y = locs → W pp l ee ({ frames := 2, cells := 0, slots := 0, locals := 42 } : Room) ss mm ([.ref (q 0), .int (nI i), .int (nI b)] : List Value).toArray bw mt cd X Y 0 0 QQ (F0 mm 0 ls []) → W pp l ee ({ frames := 2, cells := 0, slots := 0, locals := 42 } : Room) ss mm ([.ref (q 0), .int (nI i), .int (nI b)] : List Value).toArray bw mt cd ss.heap [] 0 0 QQ (F0 mm 0 ls []) := fun X Y hX hY h => by rw [hX, hY, eH, eL] at h; exact h
  refine goal H locs rfl rfl ?_
  clear goal eH eL
  obtain ⟨hx, hb, hml, hown, hts, hlocks⟩ := hfx
  have hown : ss.vm.findClass RX4 = some mm.cls := hown
  have hl : lv_has ls 5 [(0, .ref (q 0)), (1, .int (nI i)), (2, .int (nI b))] := hl
  refine lv_iload_n hx hb dX4_ask_0 rfl (lv_at hl 1 rfl) ?_
  refine gc_Si (va_runS (As := [.int (nI i)]) (rest := []) ⟨hx, hb, hml, hown, hts⟩ (c_X4_isClient l D cy (nI i)) (va_cwS 1 hts gX4_ask_X4_isClient rfl rfl rfl (by decide +kernel) ⟨Nat.le_of_ble_eq_true rfl, Nat.le_of_ble_eq_true rfl⟩) (gpSR hG (hP.sub [] rfl)) rfl rfl hl.1 rfl (lv_room (Nat.le_of_ble_eq_true rfl)) dX4_ask_1 ⟨Nat.zero_le _, Nat.zero_le _⟩) ?_
  refine lv_if_eq (tgt := 22) hx hb dX4_ask_4 (by decide) (fun c_4 => ?_) (fun c_4 => ?_)
  · skip
    have c_4 : ¬ (pIn (nI i) 0 1) := gb_eq0.mp c_4
    exact absurd (ok_idx (n := 1) (by omega) (by decide)) c_4
  · skip
    have c_4 : pIn (nI i) 0 1 := gb_ne0.mp c_4
    refine lv_iload_n hx hb dX4_ask_7 rfl (lv_at hl 2 rfl) ?_
    refine lv_iconst (v := nI 0) hx hb dX4_ask_8 (by decide) ?_
    refine lv_sipush (v := nI 300) hx hb dX4_ask_9 (by decide) ?_
    refine gc_Si (va_runS (As := [.int (nI b), .int (nI 0), .int (nI 300)]) (rest := []) ⟨hx, hb, hml, hown, hts⟩ (c_X4_in l D cy (nI b) (nI 0) (nI 300)) (va_cwS 3 hts gX4_ask_X4_in rfl rfl rfl (by decide +kernel) ⟨Nat.le_of_ble_eq_true rfl, Nat.le_of_ble_eq_true rfl⟩) (gpSR hG (hP.sub [] rfl)) rfl rfl hl.1 rfl (lv_room (Nat.le_of_ble_eq_true rfl)) dX4_ask_12 ⟨Nat.zero_le _, Nat.zero_le _⟩) ?_
    refine g_ti (y := gb (pIn (nI b) 0 300)) ((congrArg (fun z => gb (pIn (nI b) z (nI 300 : Int32).toInt)) (by decide : (nI 0 : Int32).toInt = 0)).trans (congrArg (fun z => gb (pIn (nI b) 0 z)) (by decide : (nI 300 : Int32).toInt = 300))) ?_
    refine lv_if_eq (tgt := 22) hx hb dX4_ask_15 (by decide) (fun c_15 => ?_) (fun c_15 => ?_)
    · skip
      have c_15 : ¬ (pIn (nI b) 0 300) := gb_eq0.mp c_15
      exact absurd (ok_idx (n := 300) (by omega) (by decide)) c_15
    · skip
      have c_15 : pIn (nI b) 0 300 := gb_ne0.mp c_15
      refine lv_iconst (v := nI 1) hx hb dX4_ask_18 (by decide) ?_
      refine lv_goto (tgt := 23) hx hb dX4_ask_19 (by decide) ?_
      refine lv_istore_n (lv' := [(3, .int (nI 1)), (0, .ref (q 0)), (1, .int (nI i)), (2, .int (nI b))]) hx hb dX4_ask_23 rfl hl (by decide) rfl (fun ls hl => ?_)
      refine lv_aload_n hx hb dX4_ask_24 rfl (lv_at hl 1 rfl) ?_
      refine lv_iload_n hx hb dX4_ask_25 rfl (lv_at hl 0 rfl) ?_
      refine lv_if_ne (tgt := 33) hx hb dX4_ask_26 (by decide) (fun c_26 => ?_) (fun c_26 => ?_)
      · skip
        have c_26 : ¬ 1 = 0 := fun z => c_26 ((nI_eq (a := 1) (b := 0) (by omega) (by omega)).mpr z)
        refine lv_aload_n hx hb dX4_ask_33 rfl (lv_at hl 1 rfl) ?_
        refine va_get (D := D) (ci := 4) (v := .ref (q 3)) (C := RX4) (T := TX4) (N := 17) hx hb hts iX4_ask_X4 hown hG.1 hP 0 rfl rfl 3 (by decide) (hts (.fieldLink RX4 16 "DirtyTilesModel" "isIn" "[Z") (by decide +kernel)) (fun _ h9 => h9) rfl dX4_ask_34 ?_
        refine lv_iload_n hx hb dX4_ask_37 rfl (lv_at hl 2 rfl) ?_
        refine g_zald hx hb hG hP 1 2 rfl rfl (k := i) (by omega) (by decide) dX4_ask_38 ?_
        refine g_ti (y := gb (J)) (hj) ?_
        refine lv_if_eq (tgt := 51) hx hb dX4_ask_39 (by decide) (fun c_39 => ?_) (fun c_39 => ?_)
        · skip
          have c_39 : ¬ (J) := gb_eq0.mp c_39
          refine lv_iconst (v := nI 2) hx hb dX4_ask_51 (by decide) ?_
          refine lv_goto (tgt := 56) hx hb dX4_ask_52 (by decide) ?_
          refine gc_Wi (wn := fun u => [(q 0, eMod (nI 2) q U), (q 3, eZ cy 2 is)]) (wr := [(q 3, eZ cy 2 is)]) (va_runV (As := [.int (nI 2)]) (rest := []) ⟨hx, hb, hml, hown, hts⟩ (c_X4_goesWell l D cy H.size q T U 2 (by decide)) (cwV 1 hts gX4_ask_X4_goesWell rfl rfl rfl (by decide +kernel) ⟨Nat.le_of_ble_eq_true rfl, Nat.le_of_ble_eq_true rfl⟩) (gpVI (ci := 4) (q0 := 0) hG (hP.sub [0] rfl) (hD.sub [0] (by decide) rfl) rfl rfl) rfl rfl hl.1 rfl (lv_room (Nat.le_of_ble_eq_true rfl)) dX4_ask_56 ⟨Nat.zero_le _, Nat.zero_le _⟩) hP hD hS hA [0] [1] [1, 0] rfl rfl (by decide) (by decide) (fun _ => rfl) (by decide) (fun r_56 _u H locs hw_56 hP hD hS => ?_)
          have hP : va_P D vwCl [(q 0, eMod (nI 2) q U), (q 3, eZ cy 2 is)] H := hP
          have hD : va_D AA [(q 0, eMod (nI 2) q U), (q 3, eZ cy 2 is)] := hD
          obtain ⟨hr_56, hw_56⟩ := hw_56
          refine g_ti (y := gb (2 = 0)) hr_56 ?_
          have hw_56 : True := hw_56
          refine lv_if_ne (tgt := 64) hx hb dX4_ask_59 (by decide) (fun c_59 => ?_) (fun c_59 => ?_)
          · skip
            have c_59 : 2 = 0 := gb_ne0.mp c_59
            exact absurd c_59 (by decide)
          · skip
            have c_59 : ¬ (2 = 0) := gb_eq0.mp c_59
            refine lv_iconst (v := nI 0) hx hb dX4_ask_62 (by decide) ?_
            exact hret _ _ _ _ _ () dX4_ask_63 (⟨rfl, trivial⟩) (hP.sub [0, 1] rfl) (hD.sub [0, 1] (by decide) rfl) hS
        · skip
          have c_39 : J := gb_ne0.mp c_39
          exact absurd c_39 (hJ)
      · skip
        have c_26 : 1 = 0 := (nI_eq (a := 1) (b := 0) (by omega) (by omega)).mp c_26
        exact absurd c_26 (by decide)
set_option maxHeartbeats 4000000 in
set_option maxRecDepth 100000 in
theorem c_X4_ask_m (l : Launch) (D : va_G) (cy : Nat → ClassId) (sz : Nat) (q : Nat → Nat) (T U : Int32) (i b n : Nat) (is wa : Nat → Int32) (J : Prop) (hi : i < 2) (hj : is i = gb (J)) (hJ : J) (hb9 : b ≤ 300) (hw : wa i = nI n) (hn : 0 < n ∧ n ≤ 12) : Met l yX4_ask wsX4_ask ({ frames := 2, cells := 0, slots := 0, locals := 42 } : Room) (va_Pc [.ref (q 0), .int (nI i), .int (nI b)] (gI D (gT cy) [(q 0, eMod T q U), (q 3, eZ cy 2 is), (q 13, eI cy 2 wa)] sz)) (va_Qi (fun (r9 : Int32) (u : Unit) => r9 = nI 0 ∧ ((True))) (gO D (fun u : Unit => [(q 0, eMod (nI 2) q U), (q 3, eZ cy 2 is), (q 13, eI cy 2 wa)]) (va_A [(q 0, eMod T q U), (q 3, eZ cy 2 is), (q 13, eI cy 2 wa)] sz)) (va_A [(q 0, eMod T q U), (q 3, eZ cy 2 is), (q 13, eI cy 2 wa)] sz)) 0 0 (va_A [(q 0, eMod T q U), (q 3, eZ cy 2 is), (q 13, eI cy 2 wa)] sz) := by
  refine gW_i (cc := cX4_ask) (maxL := 5) (ty := .int) (by decide) rfl (Nat.le_of_ble_eq_true rfl) (fun v u hv => by rfl) ?_
  intro pp ee ss mm bw mt cd QQ AA ls hfx hP hG hD hA hret hl
  have hS : va_S AA ss.heap ss.heap [] := va_S.rf
  obtain ⟨H, eH⟩ : ∃ H, H = ss.heap := ⟨_, rfl⟩
  obtain ⟨locs, eL⟩ : ∃ L : List Loc, L = [] := ⟨_, rfl⟩
  have hP : va_P D vwCl [(q 0, eMod T q U), (q 3, eZ cy 2 is), (q 13, eI cy 2 wa)] H := by rw [eH]; exact hP
  have hS : va_S AA ss.heap H locs := by rw [eH, eL]; exact hS
  have goal : ∀ X Y, X = H → Y = locs → W pp l ee ({ frames := 2, cells := 0, slots := 0, locals := 42 } : Room) ss mm ([.ref (q 0), .int (nI i), .int (nI b)] : List Value).toArray bw mt cd X Y 0 0 QQ (F0 mm 0 ls []) → W pp l ee ({ frames := 2, cells := 0, slots := 0, locals := 42 } : Room) ss mm ([.ref (q 0), .int (nI i), .int (nI b)] : List Value).toArray bw mt cd ss.heap [] 0 0 QQ (F0 mm 0 ls []) := fun X Y hX hY h => by rw [hX, hY, eH, eL] at h; exact h
  refine goal H locs rfl rfl ?_
  clear goal eH eL
  obtain ⟨hx, hb, hml, hown, hts, hlocks⟩ := hfx
  have hown : ss.vm.findClass RX4 = some mm.cls := hown
  have hl : lv_has ls 5 [(0, .ref (q 0)), (1, .int (nI i)), (2, .int (nI b))] := hl
  refine lv_iload_n hx hb dX4_ask_0 rfl (lv_at hl 1 rfl) ?_
  refine gc_Si (va_runS (As := [.int (nI i)]) (rest := []) ⟨hx, hb, hml, hown, hts⟩ (c_X4_isClient l D cy (nI i)) (va_cwS 1 hts gX4_ask_X4_isClient rfl rfl rfl (by decide +kernel) ⟨Nat.le_of_ble_eq_true rfl, Nat.le_of_ble_eq_true rfl⟩) (gpSR hG (hP.sub [] rfl)) rfl rfl hl.1 rfl (lv_room (Nat.le_of_ble_eq_true rfl)) dX4_ask_1 ⟨Nat.zero_le _, Nat.zero_le _⟩) ?_
  refine lv_if_eq (tgt := 22) hx hb dX4_ask_4 (by decide) (fun c_4 => ?_) (fun c_4 => ?_)
  · skip
    have c_4 : ¬ (pIn (nI i) 0 1) := gb_eq0.mp c_4
    exact absurd (ok_idx (n := 1) (by omega) (by decide)) c_4
  · skip
    have c_4 : pIn (nI i) 0 1 := gb_ne0.mp c_4
    refine lv_iload_n hx hb dX4_ask_7 rfl (lv_at hl 2 rfl) ?_
    refine lv_iconst (v := nI 0) hx hb dX4_ask_8 (by decide) ?_
    refine lv_sipush (v := nI 300) hx hb dX4_ask_9 (by decide) ?_
    refine gc_Si (va_runS (As := [.int (nI b), .int (nI 0), .int (nI 300)]) (rest := []) ⟨hx, hb, hml, hown, hts⟩ (c_X4_in l D cy (nI b) (nI 0) (nI 300)) (va_cwS 3 hts gX4_ask_X4_in rfl rfl rfl (by decide +kernel) ⟨Nat.le_of_ble_eq_true rfl, Nat.le_of_ble_eq_true rfl⟩) (gpSR hG (hP.sub [] rfl)) rfl rfl hl.1 rfl (lv_room (Nat.le_of_ble_eq_true rfl)) dX4_ask_12 ⟨Nat.zero_le _, Nat.zero_le _⟩) ?_
    refine g_ti (y := gb (pIn (nI b) 0 300)) ((congrArg (fun z => gb (pIn (nI b) z (nI 300 : Int32).toInt)) (by decide : (nI 0 : Int32).toInt = 0)).trans (congrArg (fun z => gb (pIn (nI b) 0 z)) (by decide : (nI 300 : Int32).toInt = 300))) ?_
    refine lv_if_eq (tgt := 22) hx hb dX4_ask_15 (by decide) (fun c_15 => ?_) (fun c_15 => ?_)
    · skip
      have c_15 : ¬ (pIn (nI b) 0 300) := gb_eq0.mp c_15
      exact absurd (ok_idx (n := 300) (by omega) (by decide)) c_15
    · skip
      have c_15 : pIn (nI b) 0 300 := gb_ne0.mp c_15
      refine lv_iconst (v := nI 1) hx hb dX4_ask_18 (by decide) ?_
      refine lv_goto (tgt := 23) hx hb dX4_ask_19 (by decide) ?_
      refine lv_istore_n (lv' := [(3, .int (nI 1)), (0, .ref (q 0)), (1, .int (nI i)), (2, .int (nI b))]) hx hb dX4_ask_23 rfl hl (by decide) rfl (fun ls hl => ?_)
      refine lv_aload_n hx hb dX4_ask_24 rfl (lv_at hl 1 rfl) ?_
      refine lv_iload_n hx hb dX4_ask_25 rfl (lv_at hl 0 rfl) ?_
      refine lv_if_ne (tgt := 33) hx hb dX4_ask_26 (by decide) (fun c_26 => ?_) (fun c_26 => ?_)
      · skip
        have c_26 : ¬ 1 = 0 := fun z => c_26 ((nI_eq (a := 1) (b := 0) (by omega) (by omega)).mpr z)
        refine lv_aload_n hx hb dX4_ask_33 rfl (lv_at hl 1 rfl) ?_
        refine va_get (D := D) (ci := 4) (v := .ref (q 3)) (C := RX4) (T := TX4) (N := 17) hx hb hts iX4_ask_X4 hown hG.1 hP 0 rfl rfl 3 (by decide) (hts (.fieldLink RX4 16 "DirtyTilesModel" "isIn" "[Z") (by decide +kernel)) (fun _ h9 => h9) rfl dX4_ask_34 ?_
        refine lv_iload_n hx hb dX4_ask_37 rfl (lv_at hl 2 rfl) ?_
        refine g_zald hx hb hG hP 1 2 rfl rfl (k := i) (by omega) (by decide) dX4_ask_38 ?_
        refine g_ti (y := gb (J)) (hj) ?_
        refine lv_if_eq (tgt := 51) hx hb dX4_ask_39 (by decide) (fun c_39 => ?_) (fun c_39 => ?_)
        · skip
          have c_39 : ¬ (J) := gb_eq0.mp c_39
          exact absurd (hJ) c_39
        · skip
          have c_39 : J := gb_ne0.mp c_39
          refine lv_aload_n hx hb dX4_ask_42 rfl (lv_at hl 1 rfl) ?_
          refine va_get (D := D) (ci := 4) (v := .ref (q 13)) (C := RX4) (T := TX4) (N := 17) hx hb hts iX4_ask_X4 hown hG.1 hP 0 rfl rfl 13 (by decide) (hts (.fieldLink RX4 47 "DirtyTilesModel" "waiting" "[I") (by decide +kernel)) (fun _ h9 => h9) rfl dX4_ask_43 ?_
          refine lv_iload_n hx hb dX4_ask_46 rfl (lv_at hl 2 rfl) ?_
          refine g_iald hx hb hG hP 2 0 rfl rfl (k := i) (by omega) (by decide) dX4_ask_47 ?_
          refine g_ti (y := nI n) (hw) ?_
          refine lv_if_le (tgt := 55) hx hb dX4_ask_48 (by decide) (fun c_48 => ?_) (fun c_48 => ?_)
          · skip
            have c_48 : n ≤ 0 := (nI_leI (a := n) (b := 0) (by omega) (by omega)).mp c_48
            exact absurd c_48 (by omega)
          · skip
            have c_48 : ¬ n ≤ 0 := fun z => c_48 ((nI_leI (a := n) (b := 0) (by omega) (by omega)).mpr z)
            refine lv_iconst (v := nI 2) hx hb dX4_ask_51 (by decide) ?_
            refine lv_goto (tgt := 56) hx hb dX4_ask_52 (by decide) ?_
            refine gc_Wi (wn := fun u => [(q 0, eMod (nI 2) q U), (q 3, eZ cy 2 is), (q 13, eI cy 2 wa)]) (wr := [(q 3, eZ cy 2 is), (q 13, eI cy 2 wa)]) (va_runV (As := [.int (nI 2)]) (rest := []) ⟨hx, hb, hml, hown, hts⟩ (c_X4_goesWell l D cy H.size q T U 2 (by decide)) (cwV 1 hts gX4_ask_X4_goesWell rfl rfl rfl (by decide +kernel) ⟨Nat.le_of_ble_eq_true rfl, Nat.le_of_ble_eq_true rfl⟩) (gpVI (ci := 4) (q0 := 0) hG (hP.sub [0] rfl) (hD.sub [0] (by decide) rfl) rfl rfl) rfl rfl hl.1 rfl (lv_room (Nat.le_of_ble_eq_true rfl)) dX4_ask_56 ⟨Nat.zero_le _, Nat.zero_le _⟩) hP hD hS hA [0] [1, 2] [2, 0, 1] rfl rfl (by decide) (by decide) (fun _ => rfl) (by decide) (fun r_56 _u H locs hw_56 hP hD hS => ?_)
            have hP : va_P D vwCl [(q 0, eMod (nI 2) q U), (q 3, eZ cy 2 is), (q 13, eI cy 2 wa)] H := hP
            have hD : va_D AA [(q 0, eMod (nI 2) q U), (q 3, eZ cy 2 is), (q 13, eI cy 2 wa)] := hD
            obtain ⟨hr_56, hw_56⟩ := hw_56
            refine g_ti (y := gb (2 = 0)) hr_56 ?_
            have hw_56 : True := hw_56
            refine lv_if_ne (tgt := 64) hx hb dX4_ask_59 (by decide) (fun c_59 => ?_) (fun c_59 => ?_)
            · skip
              have c_59 : 2 = 0 := gb_ne0.mp c_59
              exact absurd c_59 (by decide)
            · skip
              have c_59 : ¬ (2 = 0) := gb_eq0.mp c_59
              refine lv_iconst (v := nI 0) hx hb dX4_ask_62 (by decide) ?_
              exact hret _ _ _ _ _ () dX4_ask_63 (⟨rfl, trivial⟩) (hP.sub [0, 1, 2] rfl) (hD.sub [0, 1, 2] (by decide) rfl) hS
      · skip
        have c_26 : 1 = 0 := (nI_eq (a := 1) (b := 0) (by omega) (by omega)).mp c_26
        exact absurd c_26 (by decide)
set_option maxHeartbeats 4000000 in
set_option maxRecDepth 100000 in
theorem c_X4_answer_b (l : Launch) (D : va_G) (cy : Nat → ClassId) (sz : Nat) (q : Nat → Nat) (T U : Int32) (i : Int32) (hn : ¬ pIn i 0 1) : Met l yX4_answer wsX4_answer ({ frames := 2, cells := 0, slots := 0, locals := 42 } : Room) (va_Pc [.ref (q 0), .int i] (gI D (gT cy) [(q 0, eMod T q U)] sz)) (va_Qi (fun (r9 : Int32) (u : Unit) => r9 = nI 0 ∧ ((True))) (gO D (fun u : Unit => [(q 0, eMod (nI 1) q U)]) (va_A [(q 0, eMod T q U)] sz)) (va_A [(q 0, eMod T q U)] sz)) 0 0 (va_A [(q 0, eMod T q U)] sz) := by
  refine gW_i (cc := cX4_answer) (maxL := 6) (ty := .int) (by decide) rfl (Nat.le_of_ble_eq_true rfl) (fun v u hv => by rfl) ?_
  intro pp ee ss mm bw mt cd QQ AA ls hfx hP hG hD hA hret hl
  have hS : va_S AA ss.heap ss.heap [] := va_S.rf
  obtain ⟨H, eH⟩ : ∃ H, H = ss.heap := ⟨_, rfl⟩
  obtain ⟨locs, eL⟩ : ∃ L : List Loc, L = [] := ⟨_, rfl⟩
  have hP : va_P D vwCl [(q 0, eMod T q U)] H := by rw [eH]; exact hP
  have hS : va_S AA ss.heap H locs := by rw [eH, eL]; exact hS
  have goal : ∀ X Y, X = H → Y = locs → W pp l ee ({ frames := 2, cells := 0, slots := 0, locals := 42 } : Room) ss mm ([.ref (q 0), .int i] : List Value).toArray bw mt cd X Y 0 0 QQ (F0 mm 0 ls []) → W pp l ee ({ frames := 2, cells := 0, slots := 0, locals := 42 } : Room) ss mm ([.ref (q 0), .int i] : List Value).toArray bw mt cd ss.heap [] 0 0 QQ (F0 mm 0 ls []) := fun X Y hX hY h => by rw [hX, hY, eH, eL] at h; exact h
  refine goal H locs rfl rfl ?_
  clear goal eH eL
  obtain ⟨hx, hb, hml, hown, hts, hlocks⟩ := hfx
  have hown : ss.vm.findClass RX4 = some mm.cls := hown
  have hl : lv_has ls 6 [(0, .ref (q 0)), (1, .int i)] := hl
  refine lv_aload_n hx hb dX4_answer_0 rfl (lv_at hl 0 rfl) ?_
  refine lv_iload_n hx hb dX4_answer_1 rfl (lv_at hl 1 rfl) ?_
  refine gc_Si (va_runS (As := [.int i]) (rest := [.ref (q 0)]) ⟨hx, hb, hml, hown, hts⟩ (c_X4_isClient l D cy i) (va_cwS 1 hts gX4_answer_X4_isClient rfl rfl rfl (by decide +kernel) ⟨Nat.le_of_ble_eq_true rfl, Nat.le_of_ble_eq_true rfl⟩) (gpSR hG (hP.sub [] rfl)) rfl rfl hl.1 rfl (lv_room (Nat.le_of_ble_eq_true rfl)) dX4_answer_2 ⟨Nat.zero_le _, Nat.zero_le _⟩) ?_
  refine lv_if_ne (tgt := 12) hx hb dX4_answer_5 (by decide) (fun c_5 => ?_) (fun c_5 => ?_)
  · skip
    have c_5 : pIn i 0 1 := gb_ne0.mp c_5
    exact absurd c_5 (hn)
  · skip
    have c_5 : ¬ (pIn i 0 1) := gb_eq0.mp c_5
    refine lv_iconst (v := nI 1) hx hb dX4_answer_8 (by decide) ?_
    refine lv_goto (tgt := 35) hx hb dX4_answer_9 (by decide) ?_
    refine gc_Wi (wn := fun u => [(q 0, eMod (nI 1) q U)]) (wr := []) (va_runV (As := [.int (nI 1)]) (rest := []) ⟨hx, hb, hml, hown, hts⟩ (c_X4_goesWell l D cy H.size q T U 1 (by decide)) (cwV 1 hts gX4_answer_X4_goesWell rfl rfl rfl (by decide +kernel) ⟨Nat.le_of_ble_eq_true rfl, Nat.le_of_ble_eq_true rfl⟩) (gpVI (ci := 4) (q0 := 0) hG (hP.sub [0] rfl) (hD.sub [0] (by decide) rfl) rfl rfl) rfl rfl hl.1 rfl (lv_room (Nat.le_of_ble_eq_true rfl)) dX4_answer_35 ⟨Nat.zero_le _, Nat.zero_le _⟩) hP hD hS hA [0] [] [0] rfl rfl (by decide) (by decide) (fun _ => rfl) (by decide) (fun r_35 _u H locs hw_35 hP hD hS => ?_)
    have hP : va_P D vwCl [(q 0, eMod (nI 1) q U)] H := hP
    have hD : va_D AA [(q 0, eMod (nI 1) q U)] := hD
    obtain ⟨hr_35, hw_35⟩ := hw_35
    refine g_ti (y := gb (1 = 0)) hr_35 ?_
    have hw_35 : True := hw_35
    refine lv_if_ne (tgt := 43) hx hb dX4_answer_38 (by decide) (fun c_38 => ?_) (fun c_38 => ?_)
    · skip
      have c_38 : 1 = 0 := gb_ne0.mp c_38
      exact absurd c_38 (by decide)
    · skip
      have c_38 : ¬ (1 = 0) := gb_eq0.mp c_38
      refine lv_iconst (v := nI 0) hx hb dX4_answer_41 (by decide) ?_
      exact hret _ _ _ _ _ () dX4_answer_42 (⟨rfl, trivial⟩) (hP.sub [0] rfl) (hD.sub [0] (by decide) rfl) hS
theorem iX4_answer_X4 : ∀ w ∈ wsX40, w ∈ wsX4_answer := by decide +kernel
set_option maxHeartbeats 4000000 in
set_option maxRecDepth 100000 in
theorem c_X4_answer_s (l : Launch) (D : va_G) (cy : Nat → ClassId) (sz : Nat) (q : Nat → Nat) (T U : Int32) (i : Nat) (is : Nat → Int32) (J : Prop) (hi : i < 2) (hj : is i = gb (J)) (hJ : ¬ J) : Met l yX4_answer wsX4_answer ({ frames := 2, cells := 0, slots := 0, locals := 42 } : Room) (va_Pc [.ref (q 0), .int (nI i)] (gI D (gT cy) [(q 0, eMod T q U), (q 3, eZ cy 2 is)] sz)) (va_Qi (fun (r9 : Int32) (u : Unit) => r9 = nI 0 ∧ ((True))) (gO D (fun u : Unit => [(q 0, eMod (nI 2) q U), (q 3, eZ cy 2 is)]) (va_A [(q 0, eMod T q U), (q 3, eZ cy 2 is)] sz)) (va_A [(q 0, eMod T q U), (q 3, eZ cy 2 is)] sz)) 0 0 (va_A [(q 0, eMod T q U), (q 3, eZ cy 2 is)] sz) := by
  refine gW_i (cc := cX4_answer) (maxL := 6) (ty := .int) (by decide) rfl (Nat.le_of_ble_eq_true rfl) (fun v u hv => by rfl) ?_
  intro pp ee ss mm bw mt cd QQ AA ls hfx hP hG hD hA hret hl
  have hS : va_S AA ss.heap ss.heap [] := va_S.rf
  obtain ⟨H, eH⟩ : ∃ H, H = ss.heap := ⟨_, rfl⟩
  obtain ⟨locs, eL⟩ : ∃ L : List Loc, L = [] := ⟨_, rfl⟩
  have hP : va_P D vwCl [(q 0, eMod T q U), (q 3, eZ cy 2 is)] H := by rw [eH]; exact hP
  have hS : va_S AA ss.heap H locs := by rw [eH, eL]; exact hS
  have goal : ∀ X Y, X = H → Y = locs → W pp l ee ({ frames := 2, cells := 0, slots := 0, locals := 42 } : Room) ss mm ([.ref (q 0), .int (nI i)] : List Value).toArray bw mt cd X Y 0 0 QQ (F0 mm 0 ls []) → W pp l ee ({ frames := 2, cells := 0, slots := 0, locals := 42 } : Room) ss mm ([.ref (q 0), .int (nI i)] : List Value).toArray bw mt cd ss.heap [] 0 0 QQ (F0 mm 0 ls []) := fun X Y hX hY h => by rw [hX, hY, eH, eL] at h; exact h
  refine goal H locs rfl rfl ?_
  clear goal eH eL
  obtain ⟨hx, hb, hml, hown, hts, hlocks⟩ := hfx
  have hown : ss.vm.findClass RX4 = some mm.cls := hown
  have hl : lv_has ls 6 [(0, .ref (q 0)), (1, .int (nI i))] := hl
  refine lv_aload_n hx hb dX4_answer_0 rfl (lv_at hl 0 rfl) ?_
  refine lv_iload_n hx hb dX4_answer_1 rfl (lv_at hl 1 rfl) ?_
  refine gc_Si (va_runS (As := [.int (nI i)]) (rest := [.ref (q 0)]) ⟨hx, hb, hml, hown, hts⟩ (c_X4_isClient l D cy (nI i)) (va_cwS 1 hts gX4_answer_X4_isClient rfl rfl rfl (by decide +kernel) ⟨Nat.le_of_ble_eq_true rfl, Nat.le_of_ble_eq_true rfl⟩) (gpSR hG (hP.sub [] rfl)) rfl rfl hl.1 rfl (lv_room (Nat.le_of_ble_eq_true rfl)) dX4_answer_2 ⟨Nat.zero_le _, Nat.zero_le _⟩) ?_
  refine lv_if_ne (tgt := 12) hx hb dX4_answer_5 (by decide) (fun c_5 => ?_) (fun c_5 => ?_)
  · skip
    have c_5 : pIn (nI i) 0 1 := gb_ne0.mp c_5
    refine lv_aload_n hx hb dX4_answer_12 rfl (lv_at hl 0 rfl) ?_
    refine va_get (D := D) (ci := 4) (v := .ref (q 3)) (C := RX4) (T := TX4) (N := 17) hx hb hts iX4_answer_X4 hown hG.1 hP 0 rfl rfl 3 (by decide) (hts (.fieldLink RX4 16 "DirtyTilesModel" "isIn" "[Z") (by decide +kernel)) (fun _ h9 => h9) rfl dX4_answer_13 ?_
    refine lv_iload_n hx hb dX4_answer_16 rfl (lv_at hl 1 rfl) ?_
    refine g_zald hx hb hG hP 1 2 rfl rfl (k := i) (by omega) (by decide) dX4_answer_17 ?_
    refine g_ti (y := gb (J)) (hj) ?_
    refine lv_if_eq (tgt := 30) hx hb dX4_answer_18 (by decide) (fun c_18 => ?_) (fun c_18 => ?_)
    · skip
      have c_18 : ¬ (J) := gb_eq0.mp c_18
      refine lv_iconst (v := nI 2) hx hb dX4_answer_30 (by decide) ?_
      refine lv_goto (tgt := 35) hx hb dX4_answer_31 (by decide) ?_
      refine gc_Wi (wn := fun u => [(q 0, eMod (nI 2) q U), (q 3, eZ cy 2 is)]) (wr := [(q 3, eZ cy 2 is)]) (va_runV (As := [.int (nI 2)]) (rest := []) ⟨hx, hb, hml, hown, hts⟩ (c_X4_goesWell l D cy H.size q T U 2 (by decide)) (cwV 1 hts gX4_answer_X4_goesWell rfl rfl rfl (by decide +kernel) ⟨Nat.le_of_ble_eq_true rfl, Nat.le_of_ble_eq_true rfl⟩) (gpVI (ci := 4) (q0 := 0) hG (hP.sub [0] rfl) (hD.sub [0] (by decide) rfl) rfl rfl) rfl rfl hl.1 rfl (lv_room (Nat.le_of_ble_eq_true rfl)) dX4_answer_35 ⟨Nat.zero_le _, Nat.zero_le _⟩) hP hD hS hA [0] [1] [1, 0] rfl rfl (by decide) (by decide) (fun _ => rfl) (by decide) (fun r_35 _u H locs hw_35 hP hD hS => ?_)
      have hP : va_P D vwCl [(q 0, eMod (nI 2) q U), (q 3, eZ cy 2 is)] H := hP
      have hD : va_D AA [(q 0, eMod (nI 2) q U), (q 3, eZ cy 2 is)] := hD
      obtain ⟨hr_35, hw_35⟩ := hw_35
      refine g_ti (y := gb (2 = 0)) hr_35 ?_
      have hw_35 : True := hw_35
      refine lv_if_ne (tgt := 43) hx hb dX4_answer_38 (by decide) (fun c_38 => ?_) (fun c_38 => ?_)
      · skip
        have c_38 : 2 = 0 := gb_ne0.mp c_38
        exact absurd c_38 (by decide)
      · skip
        have c_38 : ¬ (2 = 0) := gb_eq0.mp c_38
        refine lv_iconst (v := nI 0) hx hb dX4_answer_41 (by decide) ?_
        exact hret _ _ _ _ _ () dX4_answer_42 (⟨rfl, trivial⟩) (hP.sub [0, 1] rfl) (hD.sub [0, 1] (by decide) rfl) hS
    · skip
      have c_18 : J := gb_ne0.mp c_18
      exact absurd c_18 (hJ)
  · skip
    have c_5 : ¬ (pIn (nI i) 0 1) := gb_eq0.mp c_5
    exact absurd (ok_idx (n := 1) (by omega) (by decide)) c_5
set_option maxHeartbeats 4000000 in
set_option maxRecDepth 100000 in
theorem c_X4_answer_m (l : Launch) (D : va_G) (cy : Nat → ClassId) (sz : Nat) (q : Nat → Nat) (T U : Int32) (i : Nat) (is wa : Nat → Int32) (J : Prop) (hi : i < 2) (hj : is i = gb (J)) (hJ : J) (hw : wa i = nI 0) : Met l yX4_answer wsX4_answer ({ frames := 2, cells := 0, slots := 0, locals := 42 } : Room) (va_Pc [.ref (q 0), .int (nI i)] (gI D (gT cy) [(q 0, eMod T q U), (q 3, eZ cy 2 is), (q 13, eI cy 2 wa)] sz)) (va_Qi (fun (r9 : Int32) (u : Unit) => r9 = nI 0 ∧ ((True))) (gO D (fun u : Unit => [(q 0, eMod (nI 2) q U), (q 3, eZ cy 2 is), (q 13, eI cy 2 wa)]) (va_A [(q 0, eMod T q U), (q 3, eZ cy 2 is), (q 13, eI cy 2 wa)] sz)) (va_A [(q 0, eMod T q U), (q 3, eZ cy 2 is), (q 13, eI cy 2 wa)] sz)) 0 0 (va_A [(q 0, eMod T q U), (q 3, eZ cy 2 is), (q 13, eI cy 2 wa)] sz) := by
  refine gW_i (cc := cX4_answer) (maxL := 6) (ty := .int) (by decide) rfl (Nat.le_of_ble_eq_true rfl) (fun v u hv => by rfl) ?_
  intro pp ee ss mm bw mt cd QQ AA ls hfx hP hG hD hA hret hl
  have hS : va_S AA ss.heap ss.heap [] := va_S.rf
  obtain ⟨H, eH⟩ : ∃ H, H = ss.heap := ⟨_, rfl⟩
  obtain ⟨locs, eL⟩ : ∃ L : List Loc, L = [] := ⟨_, rfl⟩
  have hP : va_P D vwCl [(q 0, eMod T q U), (q 3, eZ cy 2 is), (q 13, eI cy 2 wa)] H := by rw [eH]; exact hP
  have hS : va_S AA ss.heap H locs := by rw [eH, eL]; exact hS
  have goal : ∀ X Y, X = H → Y = locs → W pp l ee ({ frames := 2, cells := 0, slots := 0, locals := 42 } : Room) ss mm ([.ref (q 0), .int (nI i)] : List Value).toArray bw mt cd X Y 0 0 QQ (F0 mm 0 ls []) → W pp l ee ({ frames := 2, cells := 0, slots := 0, locals := 42 } : Room) ss mm ([.ref (q 0), .int (nI i)] : List Value).toArray bw mt cd ss.heap [] 0 0 QQ (F0 mm 0 ls []) := fun X Y hX hY h => by rw [hX, hY, eH, eL] at h; exact h
  refine goal H locs rfl rfl ?_
  clear goal eH eL
  obtain ⟨hx, hb, hml, hown, hts, hlocks⟩ := hfx
  have hown : ss.vm.findClass RX4 = some mm.cls := hown
  have hl : lv_has ls 6 [(0, .ref (q 0)), (1, .int (nI i))] := hl
  refine lv_aload_n hx hb dX4_answer_0 rfl (lv_at hl 0 rfl) ?_
  refine lv_iload_n hx hb dX4_answer_1 rfl (lv_at hl 1 rfl) ?_
  refine gc_Si (va_runS (As := [.int (nI i)]) (rest := [.ref (q 0)]) ⟨hx, hb, hml, hown, hts⟩ (c_X4_isClient l D cy (nI i)) (va_cwS 1 hts gX4_answer_X4_isClient rfl rfl rfl (by decide +kernel) ⟨Nat.le_of_ble_eq_true rfl, Nat.le_of_ble_eq_true rfl⟩) (gpSR hG (hP.sub [] rfl)) rfl rfl hl.1 rfl (lv_room (Nat.le_of_ble_eq_true rfl)) dX4_answer_2 ⟨Nat.zero_le _, Nat.zero_le _⟩) ?_
  refine lv_if_ne (tgt := 12) hx hb dX4_answer_5 (by decide) (fun c_5 => ?_) (fun c_5 => ?_)
  · skip
    have c_5 : pIn (nI i) 0 1 := gb_ne0.mp c_5
    refine lv_aload_n hx hb dX4_answer_12 rfl (lv_at hl 0 rfl) ?_
    refine va_get (D := D) (ci := 4) (v := .ref (q 3)) (C := RX4) (T := TX4) (N := 17) hx hb hts iX4_answer_X4 hown hG.1 hP 0 rfl rfl 3 (by decide) (hts (.fieldLink RX4 16 "DirtyTilesModel" "isIn" "[Z") (by decide +kernel)) (fun _ h9 => h9) rfl dX4_answer_13 ?_
    refine lv_iload_n hx hb dX4_answer_16 rfl (lv_at hl 1 rfl) ?_
    refine g_zald hx hb hG hP 1 2 rfl rfl (k := i) (by omega) (by decide) dX4_answer_17 ?_
    refine g_ti (y := gb (J)) (hj) ?_
    refine lv_if_eq (tgt := 30) hx hb dX4_answer_18 (by decide) (fun c_18 => ?_) (fun c_18 => ?_)
    · skip
      have c_18 : ¬ (J) := gb_eq0.mp c_18
      exact absurd (hJ) c_18
    · skip
      have c_18 : J := gb_ne0.mp c_18
      refine lv_aload_n hx hb dX4_answer_21 rfl (lv_at hl 0 rfl) ?_
      refine va_get (D := D) (ci := 4) (v := .ref (q 13)) (C := RX4) (T := TX4) (N := 17) hx hb hts iX4_answer_X4 hown hG.1 hP 0 rfl rfl 13 (by decide) (hts (.fieldLink RX4 47 "DirtyTilesModel" "waiting" "[I") (by decide +kernel)) (fun _ h9 => h9) rfl dX4_answer_22 ?_
      refine lv_iload_n hx hb dX4_answer_25 rfl (lv_at hl 1 rfl) ?_
      refine g_iald hx hb hG hP 2 0 rfl rfl (k := i) (by omega) (by decide) dX4_answer_26 ?_
      refine g_ti (y := nI 0) (hw) ?_
      refine lv_if_ne (tgt := 34) hx hb dX4_answer_27 (by decide) (fun c_27 => ?_) (fun c_27 => ?_)
      · skip
        have c_27 : ¬ 0 = 0 := fun z => c_27 ((nI_eq (a := 0) (b := 0) (by omega) (by omega)).mpr z)
        exact absurd c_27 (by decide)
      · skip
        have c_27 : 0 = 0 := (nI_eq (a := 0) (b := 0) (by omega) (by omega)).mp c_27
        refine lv_iconst (v := nI 2) hx hb dX4_answer_30 (by decide) ?_
        refine lv_goto (tgt := 35) hx hb dX4_answer_31 (by decide) ?_
        refine gc_Wi (wn := fun u => [(q 0, eMod (nI 2) q U), (q 3, eZ cy 2 is), (q 13, eI cy 2 wa)]) (wr := [(q 3, eZ cy 2 is), (q 13, eI cy 2 wa)]) (va_runV (As := [.int (nI 2)]) (rest := []) ⟨hx, hb, hml, hown, hts⟩ (c_X4_goesWell l D cy H.size q T U 2 (by decide)) (cwV 1 hts gX4_answer_X4_goesWell rfl rfl rfl (by decide +kernel) ⟨Nat.le_of_ble_eq_true rfl, Nat.le_of_ble_eq_true rfl⟩) (gpVI (ci := 4) (q0 := 0) hG (hP.sub [0] rfl) (hD.sub [0] (by decide) rfl) rfl rfl) rfl rfl hl.1 rfl (lv_room (Nat.le_of_ble_eq_true rfl)) dX4_answer_35 ⟨Nat.zero_le _, Nat.zero_le _⟩) hP hD hS hA [0] [1, 2] [2, 0, 1] rfl rfl (by decide) (by decide) (fun _ => rfl) (by decide) (fun r_35 _u H locs hw_35 hP hD hS => ?_)
        have hP : va_P D vwCl [(q 0, eMod (nI 2) q U), (q 3, eZ cy 2 is), (q 13, eI cy 2 wa)] H := hP
        have hD : va_D AA [(q 0, eMod (nI 2) q U), (q 3, eZ cy 2 is), (q 13, eI cy 2 wa)] := hD
        obtain ⟨hr_35, hw_35⟩ := hw_35
        refine g_ti (y := gb (2 = 0)) hr_35 ?_
        have hw_35 : True := hw_35
        refine lv_if_ne (tgt := 43) hx hb dX4_answer_38 (by decide) (fun c_38 => ?_) (fun c_38 => ?_)
        · skip
          have c_38 : 2 = 0 := gb_ne0.mp c_38
          exact absurd c_38 (by decide)
        · skip
          have c_38 : ¬ (2 = 0) := gb_eq0.mp c_38
          refine lv_iconst (v := nI 0) hx hb dX4_answer_41 (by decide) ?_
          exact hret _ _ _ _ _ () dX4_answer_42 (⟨rfl, trivial⟩) (hP.sub [0, 1, 2] rfl) (hD.sub [0, 1, 2] (by decide) rfl) hS
  · skip
    have c_5 : ¬ (pIn (nI i) 0 1) := gb_eq0.mp c_5
    exact absurd (ok_idx (n := 1) (by omega) (by decide)) c_5
set_option maxHeartbeats 4000000 in
set_option maxRecDepth 100000 in
theorem c_X4_shown_b (l : Launch) (D : va_G) (cy : Nat → ClassId) (sz : Nat) (q : Nat → Nat) (T U : Int32) (i c r : Int32) (hn : ¬ (pIn i 0 1 ∧ pCell c r)) : Met l yX4_shown wsX4_shown ({ frames := 2, cells := 0, slots := 0, locals := 43 } : Room) (va_Pc [.ref (q 0), .int i, .int c, .int r] (gI D (gT cy) [(q 0, eMod T q U)] sz)) (va_Qi (fun (r9 : Int32) (u : Unit) => r9 = nI 0 ∧ ((True))) (gO D (fun u : Unit => [(q 0, eMod (nI 1) q U)]) (va_A [(q 0, eMod T q U)] sz)) (va_A [(q 0, eMod T q U)] sz)) 0 0 (va_A [(q 0, eMod T q U)] sz) := by
  refine gW_i (cc := cX4_shown) (maxL := 5) (ty := .int) (by decide) rfl (Nat.le_of_ble_eq_true rfl) (fun v u hv => by rfl) ?_
  intro pp ee ss mm bw mt cd QQ AA ls hfx hP hG hD hA hret hl
  have hS : va_S AA ss.heap ss.heap [] := va_S.rf
  obtain ⟨H, eH⟩ : ∃ H, H = ss.heap := ⟨_, rfl⟩
  obtain ⟨locs, eL⟩ : ∃ L : List Loc, L = [] := ⟨_, rfl⟩
  have hP : va_P D vwCl [(q 0, eMod T q U)] H := by rw [eH]; exact hP
  have hS : va_S AA ss.heap H locs := by rw [eH, eL]; exact hS
  have goal : ∀ X Y, X = H → Y = locs → W pp l ee ({ frames := 2, cells := 0, slots := 0, locals := 43 } : Room) ss mm ([.ref (q 0), .int i, .int c, .int r] : List Value).toArray bw mt cd X Y 0 0 QQ (F0 mm 0 ls []) → W pp l ee ({ frames := 2, cells := 0, slots := 0, locals := 43 } : Room) ss mm ([.ref (q 0), .int i, .int c, .int r] : List Value).toArray bw mt cd ss.heap [] 0 0 QQ (F0 mm 0 ls []) := fun X Y hX hY h => by rw [hX, hY, eH, eL] at h; exact h
  refine goal H locs rfl rfl ?_
  clear goal eH eL
  obtain ⟨hx, hb, hml, hown, hts, hlocks⟩ := hfx
  have hown : ss.vm.findClass RX4 = some mm.cls := hown
  have hl : lv_has ls 5 [(0, .ref (q 0)), (1, .int i), (2, .int c), (3, .int r)] := hl
  refine lv_iload_n hx hb dX4_shown_0 rfl (lv_at hl 1 rfl) ?_
  refine gc_Si (va_runS (As := [.int i]) (rest := []) ⟨hx, hb, hml, hown, hts⟩ (c_X4_isClient l D cy i) (va_cwS 1 hts gX4_shown_X4_isClient rfl rfl rfl (by decide +kernel) ⟨Nat.le_of_ble_eq_true rfl, Nat.le_of_ble_eq_true rfl⟩) (gpSR hG (hP.sub [] rfl)) rfl rfl hl.1 rfl (lv_room (Nat.le_of_ble_eq_true rfl)) dX4_shown_1 ⟨Nat.zero_le _, Nat.zero_le _⟩) ?_
  refine lv_if_eq (tgt := 19) hx hb dX4_shown_4 (by decide) (fun c_4 => ?_) (fun c_4 => ?_)
  · skip
    have c_4 : ¬ (pIn i 0 1) := gb_eq0.mp c_4
    refine lv_iconst (v := nI 0) hx hb dX4_shown_19 (by decide) ?_
    refine lv_istore (lv' := [(4, .int (nI 0)), (0, .ref (q 0)), (1, .int i), (2, .int c), (3, .int r)]) hx hb dX4_shown_20 hl (by decide) rfl (fun ls hl => ?_)
    refine lv_aload_n hx hb dX4_shown_22 rfl (lv_at hl 1 rfl) ?_
    refine lv_iload hx hb dX4_shown_23 (lv_at hl 0 rfl) ?_
    refine lv_if_ne (tgt := 32) hx hb dX4_shown_25 (by decide) (fun c_25 => ?_) (fun c_25 => ?_)
    · skip
      have c_25 : ¬ 0 = 0 := fun z => c_25 ((nI_eq (a := 0) (b := 0) (by omega) (by omega)).mpr z)
      exact absurd c_25 (by decide)
    · skip
      have c_25 : 0 = 0 := (nI_eq (a := 0) (b := 0) (by omega) (by omega)).mp c_25
      refine lv_iconst (v := nI 1) hx hb dX4_shown_28 (by decide) ?_
      refine lv_goto (tgt := 46) hx hb dX4_shown_29 (by decide) ?_
      refine gc_Wi (wn := fun u => [(q 0, eMod (nI 1) q U)]) (wr := []) (va_runV (As := [.int (nI 1)]) (rest := []) ⟨hx, hb, hml, hown, hts⟩ (c_X4_goesWell l D cy H.size q T U 1 (by decide)) (cwV 1 hts gX4_shown_X4_goesWell rfl rfl rfl (by decide +kernel) ⟨Nat.le_of_ble_eq_true rfl, Nat.le_of_ble_eq_true rfl⟩) (gpVI (ci := 4) (q0 := 0) hG (hP.sub [0] rfl) (hD.sub [0] (by decide) rfl) rfl rfl) rfl rfl hl.1 rfl (lv_room (Nat.le_of_ble_eq_true rfl)) dX4_shown_46 ⟨Nat.zero_le _, Nat.zero_le _⟩) hP hD hS hA [0] [] [0] rfl rfl (by decide) (by decide) (fun _ => rfl) (by decide) (fun r_46 _u H locs hw_46 hP hD hS => ?_)
      have hP : va_P D vwCl [(q 0, eMod (nI 1) q U)] H := hP
      have hD : va_D AA [(q 0, eMod (nI 1) q U)] := hD
      obtain ⟨hr_46, hw_46⟩ := hw_46
      refine g_ti (y := gb (1 = 0)) hr_46 ?_
      have hw_46 : True := hw_46
      refine lv_if_eq (tgt := 72) hx hb dX4_shown_49 (by decide) (fun c_49 => ?_) (fun c_49 => ?_)
      · skip
        have c_49 : ¬ (1 = 0) := gb_eq0.mp c_49
        refine lv_iconst (v := nI 0) hx hb dX4_shown_72 (by decide) ?_
        exact hret _ _ _ _ _ () dX4_shown_73 (⟨rfl, trivial⟩) (hP.sub [0] rfl) (hD.sub [0] (by decide) rfl) hS
      · skip
        have c_49 : 1 = 0 := gb_ne0.mp c_49
        exact absurd c_49 (by decide)
  · skip
    have c_4 : pIn i 0 1 := gb_ne0.mp c_4
    refine lv_iload_n hx hb dX4_shown_7 rfl (lv_at hl 2 rfl) ?_
    refine lv_iload_n hx hb dX4_shown_8 rfl (lv_at hl 3 rfl) ?_
    refine gc_Si (va_runS (As := [.int c, .int r]) (rest := []) ⟨hx, hb, hml, hown, hts⟩ (c_X4_isCell l D cy c r) (va_cwS 2 hts gX4_shown_X4_isCell rfl rfl rfl (by decide +kernel) ⟨Nat.le_of_ble_eq_true rfl, Nat.le_of_ble_eq_true rfl⟩) (gpSR hG (hP.sub [] rfl)) rfl rfl hl.1 rfl (lv_room (Nat.le_of_ble_eq_true rfl)) dX4_shown_9 ⟨Nat.zero_le _, Nat.zero_le _⟩) ?_
    refine lv_if_eq (tgt := 19) hx hb dX4_shown_12 (by decide) (fun c_12 => ?_) (fun c_12 => ?_)
    · skip
      have c_12 : ¬ (pCell c r) := gb_eq0.mp c_12
      refine lv_iconst (v := nI 0) hx hb dX4_shown_19 (by decide) ?_
      refine lv_istore (lv' := [(4, .int (nI 0)), (0, .ref (q 0)), (1, .int i), (2, .int c), (3, .int r)]) hx hb dX4_shown_20 hl (by decide) rfl (fun ls hl => ?_)
      refine lv_aload_n hx hb dX4_shown_22 rfl (lv_at hl 1 rfl) ?_
      refine lv_iload hx hb dX4_shown_23 (lv_at hl 0 rfl) ?_
      refine lv_if_ne (tgt := 32) hx hb dX4_shown_25 (by decide) (fun c_25 => ?_) (fun c_25 => ?_)
      · skip
        have c_25 : ¬ 0 = 0 := fun z => c_25 ((nI_eq (a := 0) (b := 0) (by omega) (by omega)).mpr z)
        exact absurd c_25 (by decide)
      · skip
        have c_25 : 0 = 0 := (nI_eq (a := 0) (b := 0) (by omega) (by omega)).mp c_25
        refine lv_iconst (v := nI 1) hx hb dX4_shown_28 (by decide) ?_
        refine lv_goto (tgt := 46) hx hb dX4_shown_29 (by decide) ?_
        refine gc_Wi (wn := fun u => [(q 0, eMod (nI 1) q U)]) (wr := []) (va_runV (As := [.int (nI 1)]) (rest := []) ⟨hx, hb, hml, hown, hts⟩ (c_X4_goesWell l D cy H.size q T U 1 (by decide)) (cwV 1 hts gX4_shown_X4_goesWell rfl rfl rfl (by decide +kernel) ⟨Nat.le_of_ble_eq_true rfl, Nat.le_of_ble_eq_true rfl⟩) (gpVI (ci := 4) (q0 := 0) hG (hP.sub [0] rfl) (hD.sub [0] (by decide) rfl) rfl rfl) rfl rfl hl.1 rfl (lv_room (Nat.le_of_ble_eq_true rfl)) dX4_shown_46 ⟨Nat.zero_le _, Nat.zero_le _⟩) hP hD hS hA [0] [] [0] rfl rfl (by decide) (by decide) (fun _ => rfl) (by decide) (fun r_46 _u H locs hw_46 hP hD hS => ?_)
        have hP : va_P D vwCl [(q 0, eMod (nI 1) q U)] H := hP
        have hD : va_D AA [(q 0, eMod (nI 1) q U)] := hD
        obtain ⟨hr_46, hw_46⟩ := hw_46
        refine g_ti (y := gb (1 = 0)) hr_46 ?_
        have hw_46 : True := hw_46
        refine lv_if_eq (tgt := 72) hx hb dX4_shown_49 (by decide) (fun c_49 => ?_) (fun c_49 => ?_)
        · skip
          have c_49 : ¬ (1 = 0) := gb_eq0.mp c_49
          refine lv_iconst (v := nI 0) hx hb dX4_shown_72 (by decide) ?_
          exact hret _ _ _ _ _ () dX4_shown_73 (⟨rfl, trivial⟩) (hP.sub [0] rfl) (hD.sub [0] (by decide) rfl) hS
        · skip
          have c_49 : 1 = 0 := gb_ne0.mp c_49
          exact absurd c_49 (by decide)
    · skip
      have c_12 : pCell c r := gb_ne0.mp c_12
      exact absurd c_12 (fun z => hn ⟨c_4, z⟩)

theorem iX4_shown_X4 : ∀ w ∈ wsX40, w ∈ wsX4_shown := by decide +kernel
set_option maxHeartbeats 4000000 in
set_option maxRecDepth 100000 in
theorem c_X4_shown_s (l : Launch) (D : va_G) (cy : Nat → ClassId) (sz : Nat) (q : Nat → Nat) (T U : Int32) (i x9 y9 : Nat) (is : Nat → Int32) (J : Prop) (hi : i < 2) (hj : is i = gb (J)) (hJ : ¬ J) (hxa : x9 < 16) (hya : y9 < 12) : Met l yX4_shown wsX4_shown ({ frames := 2, cells := 0, slots := 0, locals := 43 } : Room) (va_Pc [.ref (q 0), .int (nI i), .int (nI x9), .int (nI y9)] (gI D (gT cy) [(q 0, eMod T q U), (q 3, eZ cy 2 is)] sz)) (va_Qi (fun (r9 : Int32) (u : Unit) => r9 = nI 0 ∧ ((True))) (gO D (fun u : Unit => [(q 0, eMod (nI 2) q U), (q 3, eZ cy 2 is)]) (va_A [(q 0, eMod T q U), (q 3, eZ cy 2 is)] sz)) (va_A [(q 0, eMod T q U), (q 3, eZ cy 2 is)] sz)) 0 0 (va_A [(q 0, eMod T q U), (q 3, eZ cy 2 is)] sz) := by
  refine gW_i (cc := cX4_shown) (maxL := 5) (ty := .int) (by decide) rfl (Nat.le_of_ble_eq_true rfl) (fun v u hv => by rfl) ?_
  intro pp ee ss mm bw mt cd QQ AA ls hfx hP hG hD hA hret hl
  have hS : va_S AA ss.heap ss.heap [] := va_S.rf
  obtain ⟨H, eH⟩ : ∃ H, H = ss.heap := ⟨_, rfl⟩
  obtain ⟨locs, eL⟩ : ∃ L : List Loc, L = [] := ⟨_, rfl⟩
  have hP : va_P D vwCl [(q 0, eMod T q U), (q 3, eZ cy 2 is)] H := by rw [eH]; exact hP
  have hS : va_S AA ss.heap H locs := by rw [eH, eL]; exact hS
  have goal : ∀ X Y, X = H → Y = locs → W pp l ee ({ frames := 2, cells := 0, slots := 0, locals := 43 } : Room) ss mm ([.ref (q 0), .int (nI i), .int (nI x9), .int (nI y9)] : List Value).toArray bw mt cd X Y 0 0 QQ (F0 mm 0 ls []) → W pp l ee ({ frames := 2, cells := 0, slots := 0, locals := 43 } : Room) ss mm ([.ref (q 0), .int (nI i), .int (nI x9), .int (nI y9)] : List Value).toArray bw mt cd ss.heap [] 0 0 QQ (F0 mm 0 ls []) := fun X Y hX hY h => by rw [hX, hY, eH, eL] at h; exact h
  refine goal H locs rfl rfl ?_
  clear goal eH eL
  obtain ⟨hx, hb, hml, hown, hts, hlocks⟩ := hfx
  have hown : ss.vm.findClass RX4 = some mm.cls := hown
  have hl : lv_has ls 5 [(0, .ref (q 0)), (1, .int (nI i)), (2, .int (nI x9)), (3, .int (nI y9))] := hl
  refine lv_iload_n hx hb dX4_shown_0 rfl (lv_at hl 1 rfl) ?_
  refine gc_Si (va_runS (As := [.int (nI i)]) (rest := []) ⟨hx, hb, hml, hown, hts⟩ (c_X4_isClient l D cy (nI i)) (va_cwS 1 hts gX4_shown_X4_isClient rfl rfl rfl (by decide +kernel) ⟨Nat.le_of_ble_eq_true rfl, Nat.le_of_ble_eq_true rfl⟩) (gpSR hG (hP.sub [] rfl)) rfl rfl hl.1 rfl (lv_room (Nat.le_of_ble_eq_true rfl)) dX4_shown_1 ⟨Nat.zero_le _, Nat.zero_le _⟩) ?_
  refine lv_if_eq (tgt := 19) hx hb dX4_shown_4 (by decide) (fun c_4 => ?_) (fun c_4 => ?_)
  · skip
    have c_4 : ¬ (pIn (nI i) 0 1) := gb_eq0.mp c_4
    exact absurd (ok_idx (n := 1) (by omega) (by decide)) c_4
  · skip
    have c_4 : pIn (nI i) 0 1 := gb_ne0.mp c_4
    refine lv_iload_n hx hb dX4_shown_7 rfl (lv_at hl 2 rfl) ?_
    refine lv_iload_n hx hb dX4_shown_8 rfl (lv_at hl 3 rfl) ?_
    refine gc_Si (va_runS (As := [.int (nI x9), .int (nI y9)]) (rest := []) ⟨hx, hb, hml, hown, hts⟩ (c_X4_isCell l D cy (nI x9) (nI y9)) (va_cwS 2 hts gX4_shown_X4_isCell rfl rfl rfl (by decide +kernel) ⟨Nat.le_of_ble_eq_true rfl, Nat.le_of_ble_eq_true rfl⟩) (gpSR hG (hP.sub [] rfl)) rfl rfl hl.1 rfl (lv_room (Nat.le_of_ble_eq_true rfl)) dX4_shown_9 ⟨Nat.zero_le _, Nat.zero_le _⟩) ?_
    refine lv_if_eq (tgt := 19) hx hb dX4_shown_12 (by decide) (fun c_12 => ?_) (fun c_12 => ?_)
    · skip
      have c_12 : ¬ (pCell (nI x9) (nI y9)) := gb_eq0.mp c_12
      exact absurd (ok_cell hxa hya) c_12
    · skip
      have c_12 : pCell (nI x9) (nI y9) := gb_ne0.mp c_12
      refine lv_iconst (v := nI 1) hx hb dX4_shown_15 (by decide) ?_
      refine lv_goto (tgt := 20) hx hb dX4_shown_16 (by decide) ?_
      refine lv_istore (lv' := [(4, .int (nI 1)), (0, .ref (q 0)), (1, .int (nI i)), (2, .int (nI x9)), (3, .int (nI y9))]) hx hb dX4_shown_20 hl (by decide) rfl (fun ls hl => ?_)
      refine lv_aload_n hx hb dX4_shown_22 rfl (lv_at hl 1 rfl) ?_
      refine lv_iload hx hb dX4_shown_23 (lv_at hl 0 rfl) ?_
      refine lv_if_ne (tgt := 32) hx hb dX4_shown_25 (by decide) (fun c_25 => ?_) (fun c_25 => ?_)
      · skip
        have c_25 : ¬ 1 = 0 := fun z => c_25 ((nI_eq (a := 1) (b := 0) (by omega) (by omega)).mpr z)
        refine lv_aload_n hx hb dX4_shown_32 rfl (lv_at hl 1 rfl) ?_
        refine va_get (D := D) (ci := 4) (v := .ref (q 3)) (C := RX4) (T := TX4) (N := 17) hx hb hts iX4_shown_X4 hown hG.1 hP 0 rfl rfl 3 (by decide) (hts (.fieldLink RX4 16 "DirtyTilesModel" "isIn" "[Z") (by decide +kernel)) (fun _ h9 => h9) rfl dX4_shown_33 ?_
        refine lv_iload_n hx hb dX4_shown_36 rfl (lv_at hl 2 rfl) ?_
        refine g_zald hx hb hG hP 1 2 rfl rfl (k := i) (by omega) (by decide) dX4_shown_37 ?_
        refine g_ti (y := gb (J)) (hj) ?_
        refine lv_if_eq (tgt := 45) hx hb dX4_shown_38 (by decide) (fun c_38 => ?_) (fun c_38 => ?_)
        · skip
          have c_38 : ¬ (J) := gb_eq0.mp c_38
          refine lv_iconst (v := nI 2) hx hb dX4_shown_45 (by decide) ?_
          refine gc_Wi (wn := fun u => [(q 0, eMod (nI 2) q U), (q 3, eZ cy 2 is)]) (wr := [(q 3, eZ cy 2 is)]) (va_runV (As := [.int (nI 2)]) (rest := []) ⟨hx, hb, hml, hown, hts⟩ (c_X4_goesWell l D cy H.size q T U 2 (by decide)) (cwV 1 hts gX4_shown_X4_goesWell rfl rfl rfl (by decide +kernel) ⟨Nat.le_of_ble_eq_true rfl, Nat.le_of_ble_eq_true rfl⟩) (gpVI (ci := 4) (q0 := 0) hG (hP.sub [0] rfl) (hD.sub [0] (by decide) rfl) rfl rfl) rfl rfl hl.1 rfl (lv_room (Nat.le_of_ble_eq_true rfl)) dX4_shown_46 ⟨Nat.zero_le _, Nat.zero_le _⟩) hP hD hS hA [0] [1] [1, 0] rfl rfl (by decide) (by decide) (fun _ => rfl) (by decide) (fun r_46 _u H locs hw_46 hP hD hS => ?_)
          have hP : va_P D vwCl [(q 0, eMod (nI 2) q U), (q 3, eZ cy 2 is)] H := hP
          have hD : va_D AA [(q 0, eMod (nI 2) q U), (q 3, eZ cy 2 is)] := hD
          obtain ⟨hr_46, hw_46⟩ := hw_46
          refine g_ti (y := gb (2 = 0)) hr_46 ?_
          have hw_46 : True := hw_46
          refine lv_if_eq (tgt := 72) hx hb dX4_shown_49 (by decide) (fun c_49 => ?_) (fun c_49 => ?_)
          · skip
            have c_49 : ¬ (2 = 0) := gb_eq0.mp c_49
            refine lv_iconst (v := nI 0) hx hb dX4_shown_72 (by decide) ?_
            exact hret _ _ _ _ _ () dX4_shown_73 (⟨rfl, trivial⟩) (hP.sub [0, 1] rfl) (hD.sub [0, 1] (by decide) rfl) hS
          · skip
            have c_49 : 2 = 0 := gb_ne0.mp c_49
            exact absurd c_49 (by decide)
        · skip
          have c_38 : J := gb_ne0.mp c_38
          exact absurd c_38 (hJ)
      · skip
        have c_25 : 1 = 0 := (nI_eq (a := 1) (b := 0) (by omega) (by omega)).mp c_25
        exact absurd c_25 (by decide)
set_option maxHeartbeats 4000000 in
set_option maxRecDepth 100000 in
theorem c_X4_isJoined_b (l : Launch) (D : va_G) (cy : Nat → ClassId) (sz : Nat) (q : Nat → Nat) (T U : Int32) (i : Int32) (hn : ¬ pIn i 0 1) : Met l yX4_isJoined wsX4_isJoined ({ frames := 2, cells := 0, slots := 0, locals := 42 } : Room) (va_Pc [.ref (q 0), .int i] (gI D (gT cy) [(q 0, eMod T q U)] sz)) (va_Qi (fun (r9 : Int32) (u : Unit) => r9 = gb (1 = 0) ∧ ((True))) (gO D (fun u : Unit => [(q 0, eMod (nI 1) q U)]) (va_A [(q 0, eMod T q U)] sz)) (va_A [(q 0, eMod T q U)] sz)) 0 0 (va_A [(q 0, eMod T q U)] sz) := by
  refine gW_i (cc := cX4_isJoined) (maxL := 2) (ty := .boolean) (by decide) rfl (Nat.le_of_ble_eq_true rfl) (fun v u hv => by rw [hv.1]; exact gb_nar _) ?_
  intro pp ee ss mm bw mt cd QQ AA ls hfx hP hG hD hA hret hl
  have hS : va_S AA ss.heap ss.heap [] := va_S.rf
  obtain ⟨H, eH⟩ : ∃ H, H = ss.heap := ⟨_, rfl⟩
  obtain ⟨locs, eL⟩ : ∃ L : List Loc, L = [] := ⟨_, rfl⟩
  have hP : va_P D vwCl [(q 0, eMod T q U)] H := by rw [eH]; exact hP
  have hS : va_S AA ss.heap H locs := by rw [eH, eL]; exact hS
  have goal : ∀ X Y, X = H → Y = locs → W pp l ee ({ frames := 2, cells := 0, slots := 0, locals := 42 } : Room) ss mm ([.ref (q 0), .int i] : List Value).toArray bw mt cd X Y 0 0 QQ (F0 mm 0 ls []) → W pp l ee ({ frames := 2, cells := 0, slots := 0, locals := 42 } : Room) ss mm ([.ref (q 0), .int i] : List Value).toArray bw mt cd ss.heap [] 0 0 QQ (F0 mm 0 ls []) := fun X Y hX hY h => by rw [hX, hY, eH, eL] at h; exact h
  refine goal H locs rfl rfl ?_
  clear goal eH eL
  obtain ⟨hx, hb, hml, hown, hts, hlocks⟩ := hfx
  have hown : ss.vm.findClass RX4 = some mm.cls := hown
  have hl : lv_has ls 2 [(0, .ref (q 0)), (1, .int i)] := hl
  refine lv_aload_n hx hb dX4_isJoined_0 rfl (lv_at hl 0 rfl) ?_
  refine lv_iload_n hx hb dX4_isJoined_1 rfl (lv_at hl 1 rfl) ?_
  refine gc_Si (va_runS (As := [.int i]) (rest := [.ref (q 0)]) ⟨hx, hb, hml, hown, hts⟩ (c_X4_isClient l D cy i) (va_cwS 1 hts gX4_isJoined_X4_isClient rfl rfl rfl (by decide +kernel) ⟨Nat.le_of_ble_eq_true rfl, Nat.le_of_ble_eq_true rfl⟩) (gpSR hG (hP.sub [] rfl)) rfl rfl hl.1 rfl (lv_room (Nat.le_of_ble_eq_true rfl)) dX4_isJoined_2 ⟨Nat.zero_le _, Nat.zero_le _⟩) ?_
  refine lv_if_ne (tgt := 12) hx hb dX4_isJoined_5 (by decide) (fun c_5 => ?_) (fun c_5 => ?_)
  · skip
    have c_5 : pIn i 0 1 := gb_ne0.mp c_5
    exact absurd c_5 (hn)
  · skip
    have c_5 : ¬ (pIn i 0 1) := gb_eq0.mp c_5
    refine lv_iconst (v := nI 1) hx hb dX4_isJoined_8 (by decide) ?_
    refine lv_goto (tgt := 26) hx hb dX4_isJoined_9 (by decide) ?_
    refine gc_Wi (wn := fun u => [(q 0, eMod (nI 1) q U)]) (wr := []) (va_runV (As := [.int (nI 1)]) (rest := []) ⟨hx, hb, hml, hown, hts⟩ (c_X4_goesWell l D cy H.size q T U 1 (by decide)) (cwV 1 hts gX4_isJoined_X4_goesWell rfl rfl rfl (by decide +kernel) ⟨Nat.le_of_ble_eq_true rfl, Nat.le_of_ble_eq_true rfl⟩) (gpVI (ci := 4) (q0 := 0) hG (hP.sub [0] rfl) (hD.sub [0] (by decide) rfl) rfl rfl) rfl rfl hl.1 rfl (lv_room (Nat.le_of_ble_eq_true rfl)) dX4_isJoined_26 ⟨Nat.zero_le _, Nat.zero_le _⟩) hP hD hS hA [0] [] [0] rfl rfl (by decide) (by decide) (fun _ => rfl) (by decide) (fun r_26 _u H locs hw_26 hP hD hS => ?_)
    have hP : va_P D vwCl [(q 0, eMod (nI 1) q U)] H := hP
    have hD : va_D AA [(q 0, eMod (nI 1) q U)] := hD
    obtain ⟨hr_26, hw_26⟩ := hw_26
    refine g_ti (y := gb (1 = 0)) hr_26 ?_
    have hw_26 : True := hw_26
    exact hret _ _ _ _ _ () dX4_isJoined_29 (⟨rfl, trivial⟩) (hP.sub [0] rfl) (hD.sub [0] (by decide) rfl) hS
theorem iX4_isJoined_X4 : ∀ w ∈ wsX40, w ∈ wsX4_isJoined := by decide +kernel
set_option maxHeartbeats 4000000 in
set_option maxRecDepth 100000 in
theorem c_X4_isJoined_s (l : Launch) (D : va_G) (cy : Nat → ClassId) (sz : Nat) (q : Nat → Nat) (T U : Int32) (i : Nat) (is : Nat → Int32) (J : Prop) (hi : i < 2) (hj : is i = gb (J)) (hJ : ¬ J) : Met l yX4_isJoined wsX4_isJoined ({ frames := 2, cells := 0, slots := 0, locals := 42 } : Room) (va_Pc [.ref (q 0), .int (nI i)] (gI D (gT cy) [(q 0, eMod T q U), (q 3, eZ cy 2 is)] sz)) (va_Qi (fun (r9 : Int32) (u : Unit) => r9 = gb (2 = 0) ∧ ((True))) (gO D (fun u : Unit => [(q 0, eMod (nI 2) q U), (q 3, eZ cy 2 is)]) (va_A [(q 0, eMod T q U), (q 3, eZ cy 2 is)] sz)) (va_A [(q 0, eMod T q U), (q 3, eZ cy 2 is)] sz)) 0 0 (va_A [(q 0, eMod T q U), (q 3, eZ cy 2 is)] sz) := by
  refine gW_i (cc := cX4_isJoined) (maxL := 2) (ty := .boolean) (by decide) rfl (Nat.le_of_ble_eq_true rfl) (fun v u hv => by rw [hv.1]; exact gb_nar _) ?_
  intro pp ee ss mm bw mt cd QQ AA ls hfx hP hG hD hA hret hl
  have hS : va_S AA ss.heap ss.heap [] := va_S.rf
  obtain ⟨H, eH⟩ : ∃ H, H = ss.heap := ⟨_, rfl⟩
  obtain ⟨locs, eL⟩ : ∃ L : List Loc, L = [] := ⟨_, rfl⟩
  have hP : va_P D vwCl [(q 0, eMod T q U), (q 3, eZ cy 2 is)] H := by rw [eH]; exact hP
  have hS : va_S AA ss.heap H locs := by rw [eH, eL]; exact hS
  have goal : ∀ X Y, X = H → Y = locs → W pp l ee ({ frames := 2, cells := 0, slots := 0, locals := 42 } : Room) ss mm ([.ref (q 0), .int (nI i)] : List Value).toArray bw mt cd X Y 0 0 QQ (F0 mm 0 ls []) → W pp l ee ({ frames := 2, cells := 0, slots := 0, locals := 42 } : Room) ss mm ([.ref (q 0), .int (nI i)] : List Value).toArray bw mt cd ss.heap [] 0 0 QQ (F0 mm 0 ls []) := fun X Y hX hY h => by rw [hX, hY, eH, eL] at h; exact h
  refine goal H locs rfl rfl ?_
  clear goal eH eL
  obtain ⟨hx, hb, hml, hown, hts, hlocks⟩ := hfx
  have hown : ss.vm.findClass RX4 = some mm.cls := hown
  have hl : lv_has ls 2 [(0, .ref (q 0)), (1, .int (nI i))] := hl
  refine lv_aload_n hx hb dX4_isJoined_0 rfl (lv_at hl 0 rfl) ?_
  refine lv_iload_n hx hb dX4_isJoined_1 rfl (lv_at hl 1 rfl) ?_
  refine gc_Si (va_runS (As := [.int (nI i)]) (rest := [.ref (q 0)]) ⟨hx, hb, hml, hown, hts⟩ (c_X4_isClient l D cy (nI i)) (va_cwS 1 hts gX4_isJoined_X4_isClient rfl rfl rfl (by decide +kernel) ⟨Nat.le_of_ble_eq_true rfl, Nat.le_of_ble_eq_true rfl⟩) (gpSR hG (hP.sub [] rfl)) rfl rfl hl.1 rfl (lv_room (Nat.le_of_ble_eq_true rfl)) dX4_isJoined_2 ⟨Nat.zero_le _, Nat.zero_le _⟩) ?_
  refine lv_if_ne (tgt := 12) hx hb dX4_isJoined_5 (by decide) (fun c_5 => ?_) (fun c_5 => ?_)
  · skip
    have c_5 : pIn (nI i) 0 1 := gb_ne0.mp c_5
    refine lv_aload_n hx hb dX4_isJoined_12 rfl (lv_at hl 0 rfl) ?_
    refine va_get (D := D) (ci := 4) (v := .ref (q 3)) (C := RX4) (T := TX4) (N := 17) hx hb hts iX4_isJoined_X4 hown hG.1 hP 0 rfl rfl 3 (by decide) (hts (.fieldLink RX4 16 "DirtyTilesModel" "isIn" "[Z") (by decide +kernel)) (fun _ h9 => h9) rfl dX4_isJoined_13 ?_
    refine lv_iload_n hx hb dX4_isJoined_16 rfl (lv_at hl 1 rfl) ?_
    refine g_zald hx hb hG hP 1 2 rfl rfl (k := i) (by omega) (by decide) dX4_isJoined_17 ?_
    refine g_ti (y := gb (J)) (hj) ?_
    refine lv_if_eq (tgt := 25) hx hb dX4_isJoined_18 (by decide) (fun c_18 => ?_) (fun c_18 => ?_)
    · skip
      have c_18 : ¬ (J) := gb_eq0.mp c_18
      refine lv_iconst (v := nI 2) hx hb dX4_isJoined_25 (by decide) ?_
      refine gc_Wi (wn := fun u => [(q 0, eMod (nI 2) q U), (q 3, eZ cy 2 is)]) (wr := [(q 3, eZ cy 2 is)]) (va_runV (As := [.int (nI 2)]) (rest := []) ⟨hx, hb, hml, hown, hts⟩ (c_X4_goesWell l D cy H.size q T U 2 (by decide)) (cwV 1 hts gX4_isJoined_X4_goesWell rfl rfl rfl (by decide +kernel) ⟨Nat.le_of_ble_eq_true rfl, Nat.le_of_ble_eq_true rfl⟩) (gpVI (ci := 4) (q0 := 0) hG (hP.sub [0] rfl) (hD.sub [0] (by decide) rfl) rfl rfl) rfl rfl hl.1 rfl (lv_room (Nat.le_of_ble_eq_true rfl)) dX4_isJoined_26 ⟨Nat.zero_le _, Nat.zero_le _⟩) hP hD hS hA [0] [1] [1, 0] rfl rfl (by decide) (by decide) (fun _ => rfl) (by decide) (fun r_26 _u H locs hw_26 hP hD hS => ?_)
      have hP : va_P D vwCl [(q 0, eMod (nI 2) q U), (q 3, eZ cy 2 is)] H := hP
      have hD : va_D AA [(q 0, eMod (nI 2) q U), (q 3, eZ cy 2 is)] := hD
      obtain ⟨hr_26, hw_26⟩ := hw_26
      refine g_ti (y := gb (2 = 0)) hr_26 ?_
      have hw_26 : True := hw_26
      exact hret _ _ _ _ _ () dX4_isJoined_29 (⟨rfl, trivial⟩) (hP.sub [0, 1] rfl) (hD.sub [0, 1] (by decide) rfl) hS
    · skip
      have c_18 : J := gb_ne0.mp c_18
      exact absurd c_18 (hJ)
  · skip
    have c_5 : ¬ (pIn (nI i) 0 1) := gb_eq0.mp c_5
    exact absurd (ok_idx (n := 1) (by omega) (by decide)) c_5
set_option maxHeartbeats 4000000 in
set_option maxRecDepth 100000 in
theorem c_X4_isJoined (l : Launch) (D : va_G) (cy : Nat → ClassId) (sz : Nat) (q : Nat → Nat) (T U : Int32) (i : Nat) (is : Nat → Int32) (J : Prop) (hi : i < 2) (hj : is i = gb (J)) (hJ : J) : Met l yX4_isJoined wsX4_isJoined ({ frames := 2, cells := 0, slots := 0, locals := 42 } : Room) (va_Pc [.ref (q 0), .int (nI i)] (gI D (gT cy) [(q 0, eMod T q U), (q 3, eZ cy 2 is)] sz)) (va_Qi (fun (r9 : Int32) (u : Unit) => r9 = gb (0 = 0) ∧ ((True))) (gO D (fun u : Unit => [(q 0, eMod (nI 0) q U), (q 3, eZ cy 2 is)]) (va_A [(q 0, eMod T q U), (q 3, eZ cy 2 is)] sz)) (va_A [(q 0, eMod T q U), (q 3, eZ cy 2 is)] sz)) 0 0 (va_A [(q 0, eMod T q U), (q 3, eZ cy 2 is)] sz) := by
  refine gW_i (cc := cX4_isJoined) (maxL := 2) (ty := .boolean) (by decide) rfl (Nat.le_of_ble_eq_true rfl) (fun v u hv => by rw [hv.1]; exact gb_nar _) ?_
  intro pp ee ss mm bw mt cd QQ AA ls hfx hP hG hD hA hret hl
  have hS : va_S AA ss.heap ss.heap [] := va_S.rf
  obtain ⟨H, eH⟩ : ∃ H, H = ss.heap := ⟨_, rfl⟩
  obtain ⟨locs, eL⟩ : ∃ L : List Loc, L = [] := ⟨_, rfl⟩
  have hP : va_P D vwCl [(q 0, eMod T q U), (q 3, eZ cy 2 is)] H := by rw [eH]; exact hP
  have hS : va_S AA ss.heap H locs := by rw [eH, eL]; exact hS
  have goal : ∀ X Y, X = H → Y = locs → W pp l ee ({ frames := 2, cells := 0, slots := 0, locals := 42 } : Room) ss mm ([.ref (q 0), .int (nI i)] : List Value).toArray bw mt cd X Y 0 0 QQ (F0 mm 0 ls []) → W pp l ee ({ frames := 2, cells := 0, slots := 0, locals := 42 } : Room) ss mm ([.ref (q 0), .int (nI i)] : List Value).toArray bw mt cd ss.heap [] 0 0 QQ (F0 mm 0 ls []) := fun X Y hX hY h => by rw [hX, hY, eH, eL] at h; exact h
  refine goal H locs rfl rfl ?_
  clear goal eH eL
  obtain ⟨hx, hb, hml, hown, hts, hlocks⟩ := hfx
  have hown : ss.vm.findClass RX4 = some mm.cls := hown
  have hl : lv_has ls 2 [(0, .ref (q 0)), (1, .int (nI i))] := hl
  refine lv_aload_n hx hb dX4_isJoined_0 rfl (lv_at hl 0 rfl) ?_
  refine lv_iload_n hx hb dX4_isJoined_1 rfl (lv_at hl 1 rfl) ?_
  refine gc_Si (va_runS (As := [.int (nI i)]) (rest := [.ref (q 0)]) ⟨hx, hb, hml, hown, hts⟩ (c_X4_isClient l D cy (nI i)) (va_cwS 1 hts gX4_isJoined_X4_isClient rfl rfl rfl (by decide +kernel) ⟨Nat.le_of_ble_eq_true rfl, Nat.le_of_ble_eq_true rfl⟩) (gpSR hG (hP.sub [] rfl)) rfl rfl hl.1 rfl (lv_room (Nat.le_of_ble_eq_true rfl)) dX4_isJoined_2 ⟨Nat.zero_le _, Nat.zero_le _⟩) ?_
  refine lv_if_ne (tgt := 12) hx hb dX4_isJoined_5 (by decide) (fun c_5 => ?_) (fun c_5 => ?_)
  · skip
    have c_5 : pIn (nI i) 0 1 := gb_ne0.mp c_5
    refine lv_aload_n hx hb dX4_isJoined_12 rfl (lv_at hl 0 rfl) ?_
    refine va_get (D := D) (ci := 4) (v := .ref (q 3)) (C := RX4) (T := TX4) (N := 17) hx hb hts iX4_isJoined_X4 hown hG.1 hP 0 rfl rfl 3 (by decide) (hts (.fieldLink RX4 16 "DirtyTilesModel" "isIn" "[Z") (by decide +kernel)) (fun _ h9 => h9) rfl dX4_isJoined_13 ?_
    refine lv_iload_n hx hb dX4_isJoined_16 rfl (lv_at hl 1 rfl) ?_
    refine g_zald hx hb hG hP 1 2 rfl rfl (k := i) (by omega) (by decide) dX4_isJoined_17 ?_
    refine g_ti (y := gb (J)) (hj) ?_
    refine lv_if_eq (tgt := 25) hx hb dX4_isJoined_18 (by decide) (fun c_18 => ?_) (fun c_18 => ?_)
    · skip
      have c_18 : ¬ (J) := gb_eq0.mp c_18
      exact absurd (hJ) c_18
    · skip
      have c_18 : J := gb_ne0.mp c_18
      refine lv_iconst (v := nI 0) hx hb dX4_isJoined_21 (by decide) ?_
      refine lv_goto (tgt := 26) hx hb dX4_isJoined_22 (by decide) ?_
      refine gc_Wi (wn := fun u => [(q 0, eMod (nI 0) q U), (q 3, eZ cy 2 is)]) (wr := [(q 3, eZ cy 2 is)]) (va_runV (As := [.int (nI 0)]) (rest := []) ⟨hx, hb, hml, hown, hts⟩ (c_X4_goesWell l D cy H.size q T U 0 (by decide)) (cwV 1 hts gX4_isJoined_X4_goesWell rfl rfl rfl (by decide +kernel) ⟨Nat.le_of_ble_eq_true rfl, Nat.le_of_ble_eq_true rfl⟩) (gpVI (ci := 4) (q0 := 0) hG (hP.sub [0] rfl) (hD.sub [0] (by decide) rfl) rfl rfl) rfl rfl hl.1 rfl (lv_room (Nat.le_of_ble_eq_true rfl)) dX4_isJoined_26 ⟨Nat.zero_le _, Nat.zero_le _⟩) hP hD hS hA [0] [1] [1, 0] rfl rfl (by decide) (by decide) (fun _ => rfl) (by decide) (fun r_26 _u H locs hw_26 hP hD hS => ?_)
      have hP : va_P D vwCl [(q 0, eMod (nI 0) q U), (q 3, eZ cy 2 is)] H := hP
      have hD : va_D AA [(q 0, eMod (nI 0) q U), (q 3, eZ cy 2 is)] := hD
      obtain ⟨hr_26, hw_26⟩ := hw_26
      refine g_ti (y := gb (0 = 0)) hr_26 ?_
      have hw_26 : True := hw_26
      exact hret _ _ _ _ _ () dX4_isJoined_29 (⟨rfl, trivial⟩) (hP.sub [0, 1] rfl) (hD.sub [0, 1] (by decide) rfl) hS
  · skip
    have c_5 : ¬ (pIn (nI i) 0 1) := gb_eq0.mp c_5
    exact absurd (ok_idx (n := 1) (by omega) (by decide)) c_5
set_option maxHeartbeats 4000000 in
set_option maxRecDepth 100000 in
theorem c_X4_unlike_b (l : Launch) (D : va_G) (cy : Nat → ClassId) (sz : Nat) (q : Nat → Nat) (T U : Int32) (i : Int32) (hn : ¬ pIn i 0 1) : Met l yX4_unlike wsX4_unlike ({ frames := 3, cells := 0, slots := 0, locals := 63 } : Room) (va_Pc [.ref (q 0), .int i] (gI D (gT cy) [(q 0, eMod T q U)] sz)) (va_Qi (fun (r9 : Int32) (u : Unit) => r9 = nI 0 ∧ ((True))) (gO D (fun u : Unit => [(q 0, eMod (nI 1) q U)]) (va_A [(q 0, eMod T q U)] sz)) (va_A [(q 0, eMod T q U)] sz)) 0 0 (va_A [(q 0, eMod T q U)] sz) := by
  refine gW_i (cc := cX4_unlike) (maxL := 4) (ty := .int) (by decide) rfl (Nat.le_of_ble_eq_true rfl) (fun v u hv => by rfl) ?_
  intro pp ee ss mm bw mt cd QQ AA ls hfx hP hG hD hA hret hl
  have hS : va_S AA ss.heap ss.heap [] := va_S.rf
  obtain ⟨H, eH⟩ : ∃ H, H = ss.heap := ⟨_, rfl⟩
  obtain ⟨locs, eL⟩ : ∃ L : List Loc, L = [] := ⟨_, rfl⟩
  have hP : va_P D vwCl [(q 0, eMod T q U)] H := by rw [eH]; exact hP
  have hS : va_S AA ss.heap H locs := by rw [eH, eL]; exact hS
  have goal : ∀ X Y, X = H → Y = locs → W pp l ee ({ frames := 3, cells := 0, slots := 0, locals := 63 } : Room) ss mm ([.ref (q 0), .int i] : List Value).toArray bw mt cd X Y 0 0 QQ (F0 mm 0 ls []) → W pp l ee ({ frames := 3, cells := 0, slots := 0, locals := 63 } : Room) ss mm ([.ref (q 0), .int i] : List Value).toArray bw mt cd ss.heap [] 0 0 QQ (F0 mm 0 ls []) := fun X Y hX hY h => by rw [hX, hY, eH, eL] at h; exact h
  refine goal H locs rfl rfl ?_
  clear goal eH eL
  obtain ⟨hx, hb, hml, hown, hts, hlocks⟩ := hfx
  have hown : ss.vm.findClass RX4 = some mm.cls := hown
  have hl : lv_has ls 4 [(0, .ref (q 0)), (1, .int i)] := hl
  refine lv_aload_n hx hb dX4_unlike_0 rfl (lv_at hl 0 rfl) ?_
  refine lv_iload_n hx hb dX4_unlike_1 rfl (lv_at hl 1 rfl) ?_
  refine gc_Wi (wn := fun u => [(q 0, eMod (nI 1) q U)]) (wr := []) (va_runV (As := [.int i]) (rest := []) ⟨hx, hb, hml, hown, hts⟩ (c_X4_isJoined_b l D cy H.size q T U i hn) (cwV 1 hts gX4_unlike_X4_isJoined rfl rfl rfl (by decide +kernel) ⟨Nat.le_of_ble_eq_true rfl, Nat.le_of_ble_eq_true rfl⟩) (gpVI (ci := 4) (q0 := 0) hG (hP.sub [0] rfl) (hD.sub [0] (by decide) rfl) rfl rfl) rfl rfl hl.1 rfl (lv_room (Nat.le_of_ble_eq_true rfl)) dX4_unlike_2 ⟨Nat.zero_le _, Nat.zero_le _⟩) hP hD hS hA [0] [] [0] rfl rfl (by decide) (by decide) (fun _ => rfl) (by decide) (fun r_2 _u H locs hw_2 hP hD hS => ?_)
  have hP : va_P D vwCl [(q 0, eMod (nI 1) q U)] H := hP
  have hD : va_D AA [(q 0, eMod (nI 1) q U)] := hD
  obtain ⟨hr_2, hw_2⟩ := hw_2
  refine g_ti (y := gb (1 = 0)) hr_2 ?_
  have hw_2 : True := hw_2
  refine lv_if_ne (tgt := 10) hx hb dX4_unlike_5 (by decide) (fun c_5 => ?_) (fun c_5 => ?_)
  · skip
    have c_5 : 1 = 0 := gb_ne0.mp c_5
    exact absurd c_5 (by decide)
  · skip
    have c_5 : ¬ (1 = 0) := gb_eq0.mp c_5
    refine lv_iconst (v := nI 0) hx hb dX4_unlike_8 (by decide) ?_
    exact hret _ _ _ _ _ () dX4_unlike_9 (⟨rfl, trivial⟩) (hP.sub [0] rfl) (hD.sub [0] (by decide) rfl) hS
set_option maxHeartbeats 4000000 in
set_option maxRecDepth 100000 in
theorem c_X4_unlike_s (l : Launch) (D : va_G) (cy : Nat → ClassId) (sz : Nat) (q : Nat → Nat) (T U : Int32) (i : Nat) (is : Nat → Int32) (J : Prop) (hi : i < 2) (hj : is i = gb (J)) (hJ : ¬ J) : Met l yX4_unlike wsX4_unlike ({ frames := 3, cells := 0, slots := 0, locals := 63 } : Room) (va_Pc [.ref (q 0), .int (nI i)] (gI D (gT cy) [(q 0, eMod T q U), (q 3, eZ cy 2 is)] sz)) (va_Qi (fun (r9 : Int32) (u : Unit) => r9 = nI 0 ∧ ((True))) (gO D (fun u : Unit => [(q 0, eMod (nI 2) q U), (q 3, eZ cy 2 is)]) (va_A [(q 0, eMod T q U), (q 3, eZ cy 2 is)] sz)) (va_A [(q 0, eMod T q U), (q 3, eZ cy 2 is)] sz)) 0 0 (va_A [(q 0, eMod T q U), (q 3, eZ cy 2 is)] sz) := by
  refine gW_i (cc := cX4_unlike) (maxL := 4) (ty := .int) (by decide) rfl (Nat.le_of_ble_eq_true rfl) (fun v u hv => by rfl) ?_
  intro pp ee ss mm bw mt cd QQ AA ls hfx hP hG hD hA hret hl
  have hS : va_S AA ss.heap ss.heap [] := va_S.rf
  obtain ⟨H, eH⟩ : ∃ H, H = ss.heap := ⟨_, rfl⟩
  obtain ⟨locs, eL⟩ : ∃ L : List Loc, L = [] := ⟨_, rfl⟩
  have hP : va_P D vwCl [(q 0, eMod T q U), (q 3, eZ cy 2 is)] H := by rw [eH]; exact hP
  have hS : va_S AA ss.heap H locs := by rw [eH, eL]; exact hS
  have goal : ∀ X Y, X = H → Y = locs → W pp l ee ({ frames := 3, cells := 0, slots := 0, locals := 63 } : Room) ss mm ([.ref (q 0), .int (nI i)] : List Value).toArray bw mt cd X Y 0 0 QQ (F0 mm 0 ls []) → W pp l ee ({ frames := 3, cells := 0, slots := 0, locals := 63 } : Room) ss mm ([.ref (q 0), .int (nI i)] : List Value).toArray bw mt cd ss.heap [] 0 0 QQ (F0 mm 0 ls []) := fun X Y hX hY h => by rw [hX, hY, eH, eL] at h; exact h
  refine goal H locs rfl rfl ?_
  clear goal eH eL
  obtain ⟨hx, hb, hml, hown, hts, hlocks⟩ := hfx
  have hown : ss.vm.findClass RX4 = some mm.cls := hown
  have hl : lv_has ls 4 [(0, .ref (q 0)), (1, .int (nI i))] := hl
  refine lv_aload_n hx hb dX4_unlike_0 rfl (lv_at hl 0 rfl) ?_
  refine lv_iload_n hx hb dX4_unlike_1 rfl (lv_at hl 1 rfl) ?_
  refine gc_Wi (wn := fun u => [(q 0, eMod (nI 2) q U), (q 3, eZ cy 2 is)]) (wr := []) (va_runV (As := [.int (nI i)]) (rest := []) ⟨hx, hb, hml, hown, hts⟩ (c_X4_isJoined_s l D cy H.size q T U i is J hi hj hJ) (cwV 1 hts gX4_unlike_X4_isJoined rfl rfl rfl (by decide +kernel) ⟨Nat.le_of_ble_eq_true rfl, Nat.le_of_ble_eq_true rfl⟩) (gpVI (ci := 4) (q0 := 0) hG (hP.sub [0, 1] rfl) (hD.sub [0, 1] (by decide) rfl) rfl rfl) rfl rfl hl.1 rfl (lv_room (Nat.le_of_ble_eq_true rfl)) dX4_unlike_2 ⟨Nat.zero_le _, Nat.zero_le _⟩) hP hD hS hA [0, 1] [] [0, 1] rfl rfl (by decide) (by decide) (fun _ => rfl) (by decide) (fun r_2 _u H locs hw_2 hP hD hS => ?_)
  have hP : va_P D vwCl [(q 0, eMod (nI 2) q U), (q 3, eZ cy 2 is)] H := hP
  have hD : va_D AA [(q 0, eMod (nI 2) q U), (q 3, eZ cy 2 is)] := hD
  obtain ⟨hr_2, hw_2⟩ := hw_2
  refine g_ti (y := gb (2 = 0)) hr_2 ?_
  have hw_2 : True := hw_2
  refine lv_if_ne (tgt := 10) hx hb dX4_unlike_5 (by decide) (fun c_5 => ?_) (fun c_5 => ?_)
  · skip
    have c_5 : 2 = 0 := gb_ne0.mp c_5
    exact absurd c_5 (by decide)
  · skip
    have c_5 : ¬ (2 = 0) := gb_eq0.mp c_5
    refine lv_iconst (v := nI 0) hx hb dX4_unlike_8 (by decide) ?_
    exact hret _ _ _ _ _ () dX4_unlike_9 (⟨rfl, trivial⟩) (hP.sub [0, 1] rfl) (hD.sub [0, 1] (by decide) rfl) hS
set_option maxHeartbeats 4000000 in
set_option maxRecDepth 100000 in
theorem c_X4_dirty_b (l : Launch) (D : va_G) (cy : Nat → ClassId) (sz : Nat) (q : Nat → Nat) (T U : Int32) (i : Int32) (hn : ¬ pIn i 0 1) : Met l yX4_dirty wsX4_dirty ({ frames := 3, cells := 0, slots := 0, locals := 63 } : Room) (va_Pc [.ref (q 0), .int i] (gI D (gT cy) [(q 0, eMod T q U)] sz)) (va_Qi (fun (r9 : Int32) (u : Unit) => r9 = nI 0 ∧ ((True))) (gO D (fun u : Unit => [(q 0, eMod (nI 1) q U)]) (va_A [(q 0, eMod T q U)] sz)) (va_A [(q 0, eMod T q U)] sz)) 0 0 (va_A [(q 0, eMod T q U)] sz) := by
  refine gW_i (cc := cX4_dirty) (maxL := 2) (ty := .int) (by decide) rfl (Nat.le_of_ble_eq_true rfl) (fun v u hv => by rfl) ?_
  intro pp ee ss mm bw mt cd QQ AA ls hfx hP hG hD hA hret hl
  have hS : va_S AA ss.heap ss.heap [] := va_S.rf
  obtain ⟨H, eH⟩ : ∃ H, H = ss.heap := ⟨_, rfl⟩
  obtain ⟨locs, eL⟩ : ∃ L : List Loc, L = [] := ⟨_, rfl⟩
  have hP : va_P D vwCl [(q 0, eMod T q U)] H := by rw [eH]; exact hP
  have hS : va_S AA ss.heap H locs := by rw [eH, eL]; exact hS
  have goal : ∀ X Y, X = H → Y = locs → W pp l ee ({ frames := 3, cells := 0, slots := 0, locals := 63 } : Room) ss mm ([.ref (q 0), .int i] : List Value).toArray bw mt cd X Y 0 0 QQ (F0 mm 0 ls []) → W pp l ee ({ frames := 3, cells := 0, slots := 0, locals := 63 } : Room) ss mm ([.ref (q 0), .int i] : List Value).toArray bw mt cd ss.heap [] 0 0 QQ (F0 mm 0 ls []) := fun X Y hX hY h => by rw [hX, hY, eH, eL] at h; exact h
  refine goal H locs rfl rfl ?_
  clear goal eH eL
  obtain ⟨hx, hb, hml, hown, hts, hlocks⟩ := hfx
  have hown : ss.vm.findClass RX4 = some mm.cls := hown
  have hl : lv_has ls 2 [(0, .ref (q 0)), (1, .int i)] := hl
  refine lv_aload_n hx hb dX4_dirty_0 rfl (lv_at hl 0 rfl) ?_
  refine lv_iload_n hx hb dX4_dirty_1 rfl (lv_at hl 1 rfl) ?_
  refine gc_Wi (wn := fun u => [(q 0, eMod (nI 1) q U)]) (wr := []) (va_runV (As := [.int i]) (rest := []) ⟨hx, hb, hml, hown, hts⟩ (c_X4_isJoined_b l D cy H.size q T U i hn) (cwV 1 hts gX4_dirty_X4_isJoined rfl rfl rfl (by decide +kernel) ⟨Nat.le_of_ble_eq_true rfl, Nat.le_of_ble_eq_true rfl⟩) (gpVI (ci := 4) (q0 := 0) hG (hP.sub [0] rfl) (hD.sub [0] (by decide) rfl) rfl rfl) rfl rfl hl.1 rfl (lv_room (Nat.le_of_ble_eq_true rfl)) dX4_dirty_2 ⟨Nat.zero_le _, Nat.zero_le _⟩) hP hD hS hA [0] [] [0] rfl rfl (by decide) (by decide) (fun _ => rfl) (by decide) (fun r_2 _u H locs hw_2 hP hD hS => ?_)
  have hP : va_P D vwCl [(q 0, eMod (nI 1) q U)] H := hP
  have hD : va_D AA [(q 0, eMod (nI 1) q U)] := hD
  obtain ⟨hr_2, hw_2⟩ := hw_2
  refine g_ti (y := gb (1 = 0)) hr_2 ?_
  have hw_2 : True := hw_2
  refine lv_if_eq (tgt := 17) hx hb dX4_dirty_5 (by decide) (fun c_5 => ?_) (fun c_5 => ?_)
  · skip
    have c_5 : ¬ (1 = 0) := gb_eq0.mp c_5
    refine lv_iconst (v := nI 0) hx hb dX4_dirty_17 (by decide) ?_
    exact hret _ _ _ _ _ () dX4_dirty_18 (⟨rfl, trivial⟩) (hP.sub [0] rfl) (hD.sub [0] (by decide) rfl) hS
  · skip
    have c_5 : 1 = 0 := gb_ne0.mp c_5
    exact absurd c_5 (by decide)
set_option maxHeartbeats 4000000 in
set_option maxRecDepth 100000 in
theorem c_X4_dirty_s (l : Launch) (D : va_G) (cy : Nat → ClassId) (sz : Nat) (q : Nat → Nat) (T U : Int32) (i : Nat) (is : Nat → Int32) (J : Prop) (hi : i < 2) (hj : is i = gb (J)) (hJ : ¬ J) : Met l yX4_dirty wsX4_dirty ({ frames := 3, cells := 0, slots := 0, locals := 63 } : Room) (va_Pc [.ref (q 0), .int (nI i)] (gI D (gT cy) [(q 0, eMod T q U), (q 3, eZ cy 2 is)] sz)) (va_Qi (fun (r9 : Int32) (u : Unit) => r9 = nI 0 ∧ ((True))) (gO D (fun u : Unit => [(q 0, eMod (nI 2) q U), (q 3, eZ cy 2 is)]) (va_A [(q 0, eMod T q U), (q 3, eZ cy 2 is)] sz)) (va_A [(q 0, eMod T q U), (q 3, eZ cy 2 is)] sz)) 0 0 (va_A [(q 0, eMod T q U), (q 3, eZ cy 2 is)] sz) := by
  refine gW_i (cc := cX4_dirty) (maxL := 2) (ty := .int) (by decide) rfl (Nat.le_of_ble_eq_true rfl) (fun v u hv => by rfl) ?_
  intro pp ee ss mm bw mt cd QQ AA ls hfx hP hG hD hA hret hl
  have hS : va_S AA ss.heap ss.heap [] := va_S.rf
  obtain ⟨H, eH⟩ : ∃ H, H = ss.heap := ⟨_, rfl⟩
  obtain ⟨locs, eL⟩ : ∃ L : List Loc, L = [] := ⟨_, rfl⟩
  have hP : va_P D vwCl [(q 0, eMod T q U), (q 3, eZ cy 2 is)] H := by rw [eH]; exact hP
  have hS : va_S AA ss.heap H locs := by rw [eH, eL]; exact hS
  have goal : ∀ X Y, X = H → Y = locs → W pp l ee ({ frames := 3, cells := 0, slots := 0, locals := 63 } : Room) ss mm ([.ref (q 0), .int (nI i)] : List Value).toArray bw mt cd X Y 0 0 QQ (F0 mm 0 ls []) → W pp l ee ({ frames := 3, cells := 0, slots := 0, locals := 63 } : Room) ss mm ([.ref (q 0), .int (nI i)] : List Value).toArray bw mt cd ss.heap [] 0 0 QQ (F0 mm 0 ls []) := fun X Y hX hY h => by rw [hX, hY, eH, eL] at h; exact h
  refine goal H locs rfl rfl ?_
  clear goal eH eL
  obtain ⟨hx, hb, hml, hown, hts, hlocks⟩ := hfx
  have hown : ss.vm.findClass RX4 = some mm.cls := hown
  have hl : lv_has ls 2 [(0, .ref (q 0)), (1, .int (nI i))] := hl
  refine lv_aload_n hx hb dX4_dirty_0 rfl (lv_at hl 0 rfl) ?_
  refine lv_iload_n hx hb dX4_dirty_1 rfl (lv_at hl 1 rfl) ?_
  refine gc_Wi (wn := fun u => [(q 0, eMod (nI 2) q U), (q 3, eZ cy 2 is)]) (wr := []) (va_runV (As := [.int (nI i)]) (rest := []) ⟨hx, hb, hml, hown, hts⟩ (c_X4_isJoined_s l D cy H.size q T U i is J hi hj hJ) (cwV 1 hts gX4_dirty_X4_isJoined rfl rfl rfl (by decide +kernel) ⟨Nat.le_of_ble_eq_true rfl, Nat.le_of_ble_eq_true rfl⟩) (gpVI (ci := 4) (q0 := 0) hG (hP.sub [0, 1] rfl) (hD.sub [0, 1] (by decide) rfl) rfl rfl) rfl rfl hl.1 rfl (lv_room (Nat.le_of_ble_eq_true rfl)) dX4_dirty_2 ⟨Nat.zero_le _, Nat.zero_le _⟩) hP hD hS hA [0, 1] [] [0, 1] rfl rfl (by decide) (by decide) (fun _ => rfl) (by decide) (fun r_2 _u H locs hw_2 hP hD hS => ?_)
  have hP : va_P D vwCl [(q 0, eMod (nI 2) q U), (q 3, eZ cy 2 is)] H := hP
  have hD : va_D AA [(q 0, eMod (nI 2) q U), (q 3, eZ cy 2 is)] := hD
  obtain ⟨hr_2, hw_2⟩ := hw_2
  refine g_ti (y := gb (2 = 0)) hr_2 ?_
  have hw_2 : True := hw_2
  refine lv_if_eq (tgt := 17) hx hb dX4_dirty_5 (by decide) (fun c_5 => ?_) (fun c_5 => ?_)
  · skip
    have c_5 : ¬ (2 = 0) := gb_eq0.mp c_5
    refine lv_iconst (v := nI 0) hx hb dX4_dirty_17 (by decide) ?_
    exact hret _ _ _ _ _ () dX4_dirty_18 (⟨rfl, trivial⟩) (hP.sub [0, 1] rfl) (hD.sub [0, 1] (by decide) rfl) hS
  · skip
    have c_5 : 2 = 0 := gb_ne0.mp c_5
    exact absurd c_5 (by decide)
set_option maxHeartbeats 4000000 in
set_option maxRecDepth 100000 in
theorem c_X4_cached_b (l : Launch) (D : va_G) (cy : Nat → ClassId) (sz : Nat) (q : Nat → Nat) (T U : Int32) (i : Int32) (hn : ¬ pIn i 0 1) : Met l yX4_cached wsX4_cached ({ frames := 3, cells := 0, slots := 0, locals := 63 } : Room) (va_Pc [.ref (q 0), .int i] (gI D (gT cy) [(q 0, eMod T q U)] sz)) (va_Qi (fun (r9 : Int32) (u : Unit) => r9 = nI 0 ∧ ((True))) (gO D (fun u : Unit => [(q 0, eMod (nI 1) q U)]) (va_A [(q 0, eMod T q U)] sz)) (va_A [(q 0, eMod T q U)] sz)) 0 0 (va_A [(q 0, eMod T q U)] sz) := by
  refine gW_i (cc := cX4_cached) (maxL := 2) (ty := .int) (by decide) rfl (Nat.le_of_ble_eq_true rfl) (fun v u hv => by rfl) ?_
  intro pp ee ss mm bw mt cd QQ AA ls hfx hP hG hD hA hret hl
  have hS : va_S AA ss.heap ss.heap [] := va_S.rf
  obtain ⟨H, eH⟩ : ∃ H, H = ss.heap := ⟨_, rfl⟩
  obtain ⟨locs, eL⟩ : ∃ L : List Loc, L = [] := ⟨_, rfl⟩
  have hP : va_P D vwCl [(q 0, eMod T q U)] H := by rw [eH]; exact hP
  have hS : va_S AA ss.heap H locs := by rw [eH, eL]; exact hS
  have goal : ∀ X Y, X = H → Y = locs → W pp l ee ({ frames := 3, cells := 0, slots := 0, locals := 63 } : Room) ss mm ([.ref (q 0), .int i] : List Value).toArray bw mt cd X Y 0 0 QQ (F0 mm 0 ls []) → W pp l ee ({ frames := 3, cells := 0, slots := 0, locals := 63 } : Room) ss mm ([.ref (q 0), .int i] : List Value).toArray bw mt cd ss.heap [] 0 0 QQ (F0 mm 0 ls []) := fun X Y hX hY h => by rw [hX, hY, eH, eL] at h; exact h
  refine goal H locs rfl rfl ?_
  clear goal eH eL
  obtain ⟨hx, hb, hml, hown, hts, hlocks⟩ := hfx
  have hown : ss.vm.findClass RX4 = some mm.cls := hown
  have hl : lv_has ls 2 [(0, .ref (q 0)), (1, .int i)] := hl
  refine lv_aload_n hx hb dX4_cached_0 rfl (lv_at hl 0 rfl) ?_
  refine lv_iload_n hx hb dX4_cached_1 rfl (lv_at hl 1 rfl) ?_
  refine gc_Wi (wn := fun u => [(q 0, eMod (nI 1) q U)]) (wr := []) (va_runV (As := [.int i]) (rest := []) ⟨hx, hb, hml, hown, hts⟩ (c_X4_isJoined_b l D cy H.size q T U i hn) (cwV 1 hts gX4_cached_X4_isJoined rfl rfl rfl (by decide +kernel) ⟨Nat.le_of_ble_eq_true rfl, Nat.le_of_ble_eq_true rfl⟩) (gpVI (ci := 4) (q0 := 0) hG (hP.sub [0] rfl) (hD.sub [0] (by decide) rfl) rfl rfl) rfl rfl hl.1 rfl (lv_room (Nat.le_of_ble_eq_true rfl)) dX4_cached_2 ⟨Nat.zero_le _, Nat.zero_le _⟩) hP hD hS hA [0] [] [0] rfl rfl (by decide) (by decide) (fun _ => rfl) (by decide) (fun r_2 _u H locs hw_2 hP hD hS => ?_)
  have hP : va_P D vwCl [(q 0, eMod (nI 1) q U)] H := hP
  have hD : va_D AA [(q 0, eMod (nI 1) q U)] := hD
  obtain ⟨hr_2, hw_2⟩ := hw_2
  refine g_ti (y := gb (1 = 0)) hr_2 ?_
  have hw_2 : True := hw_2
  refine lv_if_eq (tgt := 17) hx hb dX4_cached_5 (by decide) (fun c_5 => ?_) (fun c_5 => ?_)
  · skip
    have c_5 : ¬ (1 = 0) := gb_eq0.mp c_5
    refine lv_iconst (v := nI 0) hx hb dX4_cached_17 (by decide) ?_
    exact hret _ _ _ _ _ () dX4_cached_18 (⟨rfl, trivial⟩) (hP.sub [0] rfl) (hD.sub [0] (by decide) rfl) hS
  · skip
    have c_5 : 1 = 0 := gb_ne0.mp c_5
    exact absurd c_5 (by decide)
set_option maxHeartbeats 4000000 in
set_option maxRecDepth 100000 in
theorem c_X4_cached_s (l : Launch) (D : va_G) (cy : Nat → ClassId) (sz : Nat) (q : Nat → Nat) (T U : Int32) (i : Nat) (is : Nat → Int32) (J : Prop) (hi : i < 2) (hj : is i = gb (J)) (hJ : ¬ J) : Met l yX4_cached wsX4_cached ({ frames := 3, cells := 0, slots := 0, locals := 63 } : Room) (va_Pc [.ref (q 0), .int (nI i)] (gI D (gT cy) [(q 0, eMod T q U), (q 3, eZ cy 2 is)] sz)) (va_Qi (fun (r9 : Int32) (u : Unit) => r9 = nI 0 ∧ ((True))) (gO D (fun u : Unit => [(q 0, eMod (nI 2) q U), (q 3, eZ cy 2 is)]) (va_A [(q 0, eMod T q U), (q 3, eZ cy 2 is)] sz)) (va_A [(q 0, eMod T q U), (q 3, eZ cy 2 is)] sz)) 0 0 (va_A [(q 0, eMod T q U), (q 3, eZ cy 2 is)] sz) := by
  refine gW_i (cc := cX4_cached) (maxL := 2) (ty := .int) (by decide) rfl (Nat.le_of_ble_eq_true rfl) (fun v u hv => by rfl) ?_
  intro pp ee ss mm bw mt cd QQ AA ls hfx hP hG hD hA hret hl
  have hS : va_S AA ss.heap ss.heap [] := va_S.rf
  obtain ⟨H, eH⟩ : ∃ H, H = ss.heap := ⟨_, rfl⟩
  obtain ⟨locs, eL⟩ : ∃ L : List Loc, L = [] := ⟨_, rfl⟩
  have hP : va_P D vwCl [(q 0, eMod T q U), (q 3, eZ cy 2 is)] H := by rw [eH]; exact hP
  have hS : va_S AA ss.heap H locs := by rw [eH, eL]; exact hS
  have goal : ∀ X Y, X = H → Y = locs → W pp l ee ({ frames := 3, cells := 0, slots := 0, locals := 63 } : Room) ss mm ([.ref (q 0), .int (nI i)] : List Value).toArray bw mt cd X Y 0 0 QQ (F0 mm 0 ls []) → W pp l ee ({ frames := 3, cells := 0, slots := 0, locals := 63 } : Room) ss mm ([.ref (q 0), .int (nI i)] : List Value).toArray bw mt cd ss.heap [] 0 0 QQ (F0 mm 0 ls []) := fun X Y hX hY h => by rw [hX, hY, eH, eL] at h; exact h
  refine goal H locs rfl rfl ?_
  clear goal eH eL
  obtain ⟨hx, hb, hml, hown, hts, hlocks⟩ := hfx
  have hown : ss.vm.findClass RX4 = some mm.cls := hown
  have hl : lv_has ls 2 [(0, .ref (q 0)), (1, .int (nI i))] := hl
  refine lv_aload_n hx hb dX4_cached_0 rfl (lv_at hl 0 rfl) ?_
  refine lv_iload_n hx hb dX4_cached_1 rfl (lv_at hl 1 rfl) ?_
  refine gc_Wi (wn := fun u => [(q 0, eMod (nI 2) q U), (q 3, eZ cy 2 is)]) (wr := []) (va_runV (As := [.int (nI i)]) (rest := []) ⟨hx, hb, hml, hown, hts⟩ (c_X4_isJoined_s l D cy H.size q T U i is J hi hj hJ) (cwV 1 hts gX4_cached_X4_isJoined rfl rfl rfl (by decide +kernel) ⟨Nat.le_of_ble_eq_true rfl, Nat.le_of_ble_eq_true rfl⟩) (gpVI (ci := 4) (q0 := 0) hG (hP.sub [0, 1] rfl) (hD.sub [0, 1] (by decide) rfl) rfl rfl) rfl rfl hl.1 rfl (lv_room (Nat.le_of_ble_eq_true rfl)) dX4_cached_2 ⟨Nat.zero_le _, Nat.zero_le _⟩) hP hD hS hA [0, 1] [] [0, 1] rfl rfl (by decide) (by decide) (fun _ => rfl) (by decide) (fun r_2 _u H locs hw_2 hP hD hS => ?_)
  have hP : va_P D vwCl [(q 0, eMod (nI 2) q U), (q 3, eZ cy 2 is)] H := hP
  have hD : va_D AA [(q 0, eMod (nI 2) q U), (q 3, eZ cy 2 is)] := hD
  obtain ⟨hr_2, hw_2⟩ := hw_2
  refine g_ti (y := gb (2 = 0)) hr_2 ?_
  have hw_2 : True := hw_2
  refine lv_if_eq (tgt := 17) hx hb dX4_cached_5 (by decide) (fun c_5 => ?_) (fun c_5 => ?_)
  · skip
    have c_5 : ¬ (2 = 0) := gb_eq0.mp c_5
    refine lv_iconst (v := nI 0) hx hb dX4_cached_17 (by decide) ?_
    exact hret _ _ _ _ _ () dX4_cached_18 (⟨rfl, trivial⟩) (hP.sub [0, 1] rfl) (hD.sub [0, 1] (by decide) rfl) hS
  · skip
    have c_5 : 2 = 0 := gb_ne0.mp c_5
    exact absurd c_5 (by decide)
set_option maxHeartbeats 4000000 in
set_option maxRecDepth 100000 in
theorem c_X4_isAlike_b (l : Launch) (D : va_G) (cy : Nat → ClassId) (sz : Nat) (q : Nat → Nat) (T U : Int32) (i : Int32) (hn : ¬ pIn i 0 1) : Met l yX4_isAlike wsX4_isAlike ({ frames := 3, cells := 0, slots := 0, locals := 63 } : Room) (va_Pc [.ref (q 0), .int i] (gI D (gT cy) [(q 0, eMod T q U)] sz)) (va_Qi (fun (r9 : Int32) (u : Unit) => r9 = nI 0 ∧ ((True))) (gO D (fun u : Unit => [(q 0, eMod (nI 1) q U)]) (va_A [(q 0, eMod T q U)] sz)) (va_A [(q 0, eMod T q U)] sz)) 0 0 (va_A [(q 0, eMod T q U)] sz) := by
  refine gW_i (cc := cX4_isAlike) (maxL := 4) (ty := .boolean) (by decide) rfl (Nat.le_of_ble_eq_true rfl) (fun v u hv => by rw [hv.1]; rfl) ?_
  intro pp ee ss mm bw mt cd QQ AA ls hfx hP hG hD hA hret hl
  have hS : va_S AA ss.heap ss.heap [] := va_S.rf
  obtain ⟨H, eH⟩ : ∃ H, H = ss.heap := ⟨_, rfl⟩
  obtain ⟨locs, eL⟩ : ∃ L : List Loc, L = [] := ⟨_, rfl⟩
  have hP : va_P D vwCl [(q 0, eMod T q U)] H := by rw [eH]; exact hP
  have hS : va_S AA ss.heap H locs := by rw [eH, eL]; exact hS
  have goal : ∀ X Y, X = H → Y = locs → W pp l ee ({ frames := 3, cells := 0, slots := 0, locals := 63 } : Room) ss mm ([.ref (q 0), .int i] : List Value).toArray bw mt cd X Y 0 0 QQ (F0 mm 0 ls []) → W pp l ee ({ frames := 3, cells := 0, slots := 0, locals := 63 } : Room) ss mm ([.ref (q 0), .int i] : List Value).toArray bw mt cd ss.heap [] 0 0 QQ (F0 mm 0 ls []) := fun X Y hX hY h => by rw [hX, hY, eH, eL] at h; exact h
  refine goal H locs rfl rfl ?_
  clear goal eH eL
  obtain ⟨hx, hb, hml, hown, hts, hlocks⟩ := hfx
  have hown : ss.vm.findClass RX4 = some mm.cls := hown
  have hl : lv_has ls 4 [(0, .ref (q 0)), (1, .int i)] := hl
  refine lv_aload_n hx hb dX4_isAlike_0 rfl (lv_at hl 0 rfl) ?_
  refine lv_iload_n hx hb dX4_isAlike_1 rfl (lv_at hl 1 rfl) ?_
  refine gc_Wi (wn := fun u => [(q 0, eMod (nI 1) q U)]) (wr := []) (va_runV (As := [.int i]) (rest := []) ⟨hx, hb, hml, hown, hts⟩ (c_X4_isJoined_b l D cy H.size q T U i hn) (cwV 1 hts gX4_isAlike_X4_isJoined rfl rfl rfl (by decide +kernel) ⟨Nat.le_of_ble_eq_true rfl, Nat.le_of_ble_eq_true rfl⟩) (gpVI (ci := 4) (q0 := 0) hG (hP.sub [0] rfl) (hD.sub [0] (by decide) rfl) rfl rfl) rfl rfl hl.1 rfl (lv_room (Nat.le_of_ble_eq_true rfl)) dX4_isAlike_2 ⟨Nat.zero_le _, Nat.zero_le _⟩) hP hD hS hA [0] [] [0] rfl rfl (by decide) (by decide) (fun _ => rfl) (by decide) (fun r_2 _u H locs hw_2 hP hD hS => ?_)
  have hP : va_P D vwCl [(q 0, eMod (nI 1) q U)] H := hP
  have hD : va_D AA [(q 0, eMod (nI 1) q U)] := hD
  obtain ⟨hr_2, hw_2⟩ := hw_2
  refine g_ti (y := gb (1 = 0)) hr_2 ?_
  have hw_2 : True := hw_2
  refine lv_if_ne (tgt := 10) hx hb dX4_isAlike_5 (by decide) (fun c_5 => ?_) (fun c_5 => ?_)
  · skip
    have c_5 : 1 = 0 := gb_ne0.mp c_5
    exact absurd c_5 (by decide)
  · skip
    have c_5 : ¬ (1 = 0) := gb_eq0.mp c_5
    refine lv_iconst (v := nI 0) hx hb dX4_isAlike_8 (by decide) ?_
    exact hret _ _ _ _ _ () dX4_isAlike_9 (⟨rfl, trivial⟩) (hP.sub [0] rfl) (hD.sub [0] (by decide) rfl) hS
set_option maxHeartbeats 4000000 in
set_option maxRecDepth 100000 in
theorem c_X4_isAlike_s (l : Launch) (D : va_G) (cy : Nat → ClassId) (sz : Nat) (q : Nat → Nat) (T U : Int32) (i : Nat) (is : Nat → Int32) (J : Prop) (hi : i < 2) (hj : is i = gb (J)) (hJ : ¬ J) : Met l yX4_isAlike wsX4_isAlike ({ frames := 3, cells := 0, slots := 0, locals := 63 } : Room) (va_Pc [.ref (q 0), .int (nI i)] (gI D (gT cy) [(q 0, eMod T q U), (q 3, eZ cy 2 is)] sz)) (va_Qi (fun (r9 : Int32) (u : Unit) => r9 = nI 0 ∧ ((True))) (gO D (fun u : Unit => [(q 0, eMod (nI 2) q U), (q 3, eZ cy 2 is)]) (va_A [(q 0, eMod T q U), (q 3, eZ cy 2 is)] sz)) (va_A [(q 0, eMod T q U), (q 3, eZ cy 2 is)] sz)) 0 0 (va_A [(q 0, eMod T q U), (q 3, eZ cy 2 is)] sz) := by
  refine gW_i (cc := cX4_isAlike) (maxL := 4) (ty := .boolean) (by decide) rfl (Nat.le_of_ble_eq_true rfl) (fun v u hv => by rw [hv.1]; rfl) ?_
  intro pp ee ss mm bw mt cd QQ AA ls hfx hP hG hD hA hret hl
  have hS : va_S AA ss.heap ss.heap [] := va_S.rf
  obtain ⟨H, eH⟩ : ∃ H, H = ss.heap := ⟨_, rfl⟩
  obtain ⟨locs, eL⟩ : ∃ L : List Loc, L = [] := ⟨_, rfl⟩
  have hP : va_P D vwCl [(q 0, eMod T q U), (q 3, eZ cy 2 is)] H := by rw [eH]; exact hP
  have hS : va_S AA ss.heap H locs := by rw [eH, eL]; exact hS
  have goal : ∀ X Y, X = H → Y = locs → W pp l ee ({ frames := 3, cells := 0, slots := 0, locals := 63 } : Room) ss mm ([.ref (q 0), .int (nI i)] : List Value).toArray bw mt cd X Y 0 0 QQ (F0 mm 0 ls []) → W pp l ee ({ frames := 3, cells := 0, slots := 0, locals := 63 } : Room) ss mm ([.ref (q 0), .int (nI i)] : List Value).toArray bw mt cd ss.heap [] 0 0 QQ (F0 mm 0 ls []) := fun X Y hX hY h => by rw [hX, hY, eH, eL] at h; exact h
  refine goal H locs rfl rfl ?_
  clear goal eH eL
  obtain ⟨hx, hb, hml, hown, hts, hlocks⟩ := hfx
  have hown : ss.vm.findClass RX4 = some mm.cls := hown
  have hl : lv_has ls 4 [(0, .ref (q 0)), (1, .int (nI i))] := hl
  refine lv_aload_n hx hb dX4_isAlike_0 rfl (lv_at hl 0 rfl) ?_
  refine lv_iload_n hx hb dX4_isAlike_1 rfl (lv_at hl 1 rfl) ?_
  refine gc_Wi (wn := fun u => [(q 0, eMod (nI 2) q U), (q 3, eZ cy 2 is)]) (wr := []) (va_runV (As := [.int (nI i)]) (rest := []) ⟨hx, hb, hml, hown, hts⟩ (c_X4_isJoined_s l D cy H.size q T U i is J hi hj hJ) (cwV 1 hts gX4_isAlike_X4_isJoined rfl rfl rfl (by decide +kernel) ⟨Nat.le_of_ble_eq_true rfl, Nat.le_of_ble_eq_true rfl⟩) (gpVI (ci := 4) (q0 := 0) hG (hP.sub [0, 1] rfl) (hD.sub [0, 1] (by decide) rfl) rfl rfl) rfl rfl hl.1 rfl (lv_room (Nat.le_of_ble_eq_true rfl)) dX4_isAlike_2 ⟨Nat.zero_le _, Nat.zero_le _⟩) hP hD hS hA [0, 1] [] [0, 1] rfl rfl (by decide) (by decide) (fun _ => rfl) (by decide) (fun r_2 _u H locs hw_2 hP hD hS => ?_)
  have hP : va_P D vwCl [(q 0, eMod (nI 2) q U), (q 3, eZ cy 2 is)] H := hP
  have hD : va_D AA [(q 0, eMod (nI 2) q U), (q 3, eZ cy 2 is)] := hD
  obtain ⟨hr_2, hw_2⟩ := hw_2
  refine g_ti (y := gb (2 = 0)) hr_2 ?_
  have hw_2 : True := hw_2
  refine lv_if_ne (tgt := 10) hx hb dX4_isAlike_5 (by decide) (fun c_5 => ?_) (fun c_5 => ?_)
  · skip
    have c_5 : 2 = 0 := gb_ne0.mp c_5
    exact absurd c_5 (by decide)
  · skip
    have c_5 : ¬ (2 = 0) := gb_eq0.mp c_5
    refine lv_iconst (v := nI 0) hx hb dX4_isAlike_8 (by decide) ?_
    exact hret _ _ _ _ _ () dX4_isAlike_9 (⟨rfl, trivial⟩) (hP.sub [0, 1] rfl) (hD.sub [0, 1] (by decide) rfl) hS
set_option maxHeartbeats 4000000 in
set_option maxRecDepth 100000 in
theorem c_X4_written_b (l : Launch) (D : va_G) (cy : Nat → ClassId) (sz : Nat) (q : Nat → Nat) (T U : Int32) (w : Int32) (hn : ¬ pIn w 0 4) : Met l yX4_written wsX4_written ({ frames := 1, cells := 0, slots := 0, locals := 22 } : Room) (va_Pc [.ref (q 0), .int w] (gI D (gT cy) [(q 0, eMod T q U)] sz)) (va_Qi (fun (r9 : Int32) (u : Unit) => r9 = nI 0 ∧ ((True))) (gO D (fun u : Unit => [(q 0, eMod (nI 1) q U)]) (va_A [(q 0, eMod T q U)] sz)) (va_A [(q 0, eMod T q U)] sz)) 0 0 (va_A [(q 0, eMod T q U)] sz) := by
  refine gW_i (cc := cX4_written) (maxL := 2) (ty := .int) (by decide) rfl (Nat.le_of_ble_eq_true rfl) (fun v u hv => by rfl) ?_
  intro pp ee ss mm bw mt cd QQ AA ls hfx hP hG hD hA hret hl
  have hS : va_S AA ss.heap ss.heap [] := va_S.rf
  obtain ⟨H, eH⟩ : ∃ H, H = ss.heap := ⟨_, rfl⟩
  obtain ⟨locs, eL⟩ : ∃ L : List Loc, L = [] := ⟨_, rfl⟩
  have hP : va_P D vwCl [(q 0, eMod T q U)] H := by rw [eH]; exact hP
  have hS : va_S AA ss.heap H locs := by rw [eH, eL]; exact hS
  have goal : ∀ X Y, X = H → Y = locs → W pp l ee ({ frames := 1, cells := 0, slots := 0, locals := 22 } : Room) ss mm ([.ref (q 0), .int w] : List Value).toArray bw mt cd X Y 0 0 QQ (F0 mm 0 ls []) → W pp l ee ({ frames := 1, cells := 0, slots := 0, locals := 22 } : Room) ss mm ([.ref (q 0), .int w] : List Value).toArray bw mt cd ss.heap [] 0 0 QQ (F0 mm 0 ls []) := fun X Y hX hY h => by rw [hX, hY, eH, eL] at h; exact h
  refine goal H locs rfl rfl ?_
  clear goal eH eL
  obtain ⟨hx, hb, hml, hown, hts, hlocks⟩ := hfx
  have hown : ss.vm.findClass RX4 = some mm.cls := hown
  have hl : lv_has ls 2 [(0, .ref (q 0)), (1, .int w)] := hl
  refine lv_aload_n hx hb dX4_written_0 rfl (lv_at hl 0 rfl) ?_
  refine lv_iload_n hx hb dX4_written_1 rfl (lv_at hl 1 rfl) ?_
  refine lv_iconst (v := nI 0) hx hb dX4_written_2 (by decide) ?_
  refine lv_iconst (v := nI 4) hx hb dX4_written_3 (by decide) ?_
  refine gc_Si (va_runS (As := [.int w, .int (nI 0), .int (nI 4)]) (rest := [.ref (q 0)]) ⟨hx, hb, hml, hown, hts⟩ (c_X4_in l D cy w (nI 0) (nI 4)) (va_cwS 3 hts gX4_written_X4_in rfl rfl rfl (by decide +kernel) ⟨Nat.le_of_ble_eq_true rfl, Nat.le_of_ble_eq_true rfl⟩) (gpSR hG (hP.sub [] rfl)) rfl rfl hl.1 rfl (lv_room (Nat.le_of_ble_eq_true rfl)) dX4_written_4 ⟨Nat.zero_le _, Nat.zero_le _⟩) ?_
  refine g_ti (y := gb (pIn w 0 4)) ((congrArg (fun z => gb (pIn w z (nI 4 : Int32).toInt)) (by decide : (nI 0 : Int32).toInt = 0)).trans (congrArg (fun z => gb (pIn w 0 z)) (by decide : (nI 4 : Int32).toInt = 4))) ?_
  refine lv_if_eq (tgt := 14) hx hb dX4_written_7 (by decide) (fun c_7 => ?_) (fun c_7 => ?_)
  · skip
    have c_7 : ¬ (pIn w 0 4) := gb_eq0.mp c_7
    refine lv_iconst (v := nI 1) hx hb dX4_written_14 (by decide) ?_
    refine gc_Wi (wn := fun u => [(q 0, eMod (nI 1) q U)]) (wr := []) (va_runV (As := [.int (nI 1)]) (rest := []) ⟨hx, hb, hml, hown, hts⟩ (c_X4_goesWell l D cy H.size q T U 1 (by decide)) (cwV 1 hts gX4_written_X4_goesWell rfl rfl rfl (by decide +kernel) ⟨Nat.le_of_ble_eq_true rfl, Nat.le_of_ble_eq_true rfl⟩) (gpVI (ci := 4) (q0 := 0) hG (hP.sub [0] rfl) (hD.sub [0] (by decide) rfl) rfl rfl) rfl rfl hl.1 rfl (lv_room (Nat.le_of_ble_eq_true rfl)) dX4_written_15 ⟨Nat.zero_le _, Nat.zero_le _⟩) hP hD hS hA [0] [] [0] rfl rfl (by decide) (by decide) (fun _ => rfl) (by decide) (fun r_15 _u H locs hw_15 hP hD hS => ?_)
    have hP : va_P D vwCl [(q 0, eMod (nI 1) q U)] H := hP
    have hD : va_D AA [(q 0, eMod (nI 1) q U)] := hD
    obtain ⟨hr_15, hw_15⟩ := hw_15
    refine g_ti (y := gb (1 = 0)) hr_15 ?_
    have hw_15 : True := hw_15
    refine lv_if_eq (tgt := 30) hx hb dX4_written_18 (by decide) (fun c_18 => ?_) (fun c_18 => ?_)
    · skip
      have c_18 : ¬ (1 = 0) := gb_eq0.mp c_18
      refine lv_iconst (v := nI 0) hx hb dX4_written_30 (by decide) ?_
      exact hret _ _ _ _ _ () dX4_written_31 (⟨rfl, trivial⟩) (hP.sub [0] rfl) (hD.sub [0] (by decide) rfl) hS
    · skip
      have c_18 : 1 = 0 := gb_ne0.mp c_18
      exact absurd c_18 (by decide)
  · skip
    have c_7 : pIn w 0 4 := gb_ne0.mp c_7
    exact absurd c_7 (hn)
set_option maxHeartbeats 4000000 in
set_option maxRecDepth 100000 in
theorem c_X4_dirtyAt_b (l : Launch) (D : va_G) (cy : Nat → ClassId) (sz : Nat) (q : Nat → Nat) (T U : Int32) (i j : Int32) (hn : ¬ pIn i 0 1) : Met l yX4_dirtyAt wsX4_dirtyAt ({ frames := 2, cells := 0, slots := 0, locals := 42 } : Room) (va_Pc [.ref (q 0), .int i, .int j] (gI D (gT cy) [(q 0, eMod T q U)] sz)) (va_Qi (fun (r9 : Int32) (u : Unit) => r9 = nI 0 ∧ ((True))) (gO D (fun u : Unit => [(q 0, eMod (nI 1) q U)]) (va_A [(q 0, eMod T q U)] sz)) (va_A [(q 0, eMod T q U)] sz)) 0 0 (va_A [(q 0, eMod T q U)] sz) := by
  refine gW_i (cc := cX4_dirtyAt) (maxL := 4) (ty := .int) (by decide) rfl (Nat.le_of_ble_eq_true rfl) (fun v u hv => by rfl) ?_
  intro pp ee ss mm bw mt cd QQ AA ls hfx hP hG hD hA hret hl
  have hS : va_S AA ss.heap ss.heap [] := va_S.rf
  obtain ⟨H, eH⟩ : ∃ H, H = ss.heap := ⟨_, rfl⟩
  obtain ⟨locs, eL⟩ : ∃ L : List Loc, L = [] := ⟨_, rfl⟩
  have hP : va_P D vwCl [(q 0, eMod T q U)] H := by rw [eH]; exact hP
  have hS : va_S AA ss.heap H locs := by rw [eH, eL]; exact hS
  have goal : ∀ X Y, X = H → Y = locs → W pp l ee ({ frames := 2, cells := 0, slots := 0, locals := 42 } : Room) ss mm ([.ref (q 0), .int i, .int j] : List Value).toArray bw mt cd X Y 0 0 QQ (F0 mm 0 ls []) → W pp l ee ({ frames := 2, cells := 0, slots := 0, locals := 42 } : Room) ss mm ([.ref (q 0), .int i, .int j] : List Value).toArray bw mt cd ss.heap [] 0 0 QQ (F0 mm 0 ls []) := fun X Y hX hY h => by rw [hX, hY, eH, eL] at h; exact h
  refine goal H locs rfl rfl ?_
  clear goal eH eL
  obtain ⟨hx, hb, hml, hown, hts, hlocks⟩ := hfx
  have hown : ss.vm.findClass RX4 = some mm.cls := hown
  have hl : lv_has ls 4 [(0, .ref (q 0)), (1, .int i), (2, .int j)] := hl
  refine lv_iload_n hx hb dX4_dirtyAt_0 rfl (lv_at hl 1 rfl) ?_
  refine gc_Si (va_runS (As := [.int i]) (rest := []) ⟨hx, hb, hml, hown, hts⟩ (c_X4_isClient l D cy i) (va_cwS 1 hts gX4_dirtyAt_X4_isClient rfl rfl rfl (by decide +kernel) ⟨Nat.le_of_ble_eq_true rfl, Nat.le_of_ble_eq_true rfl⟩) (gpSR hG (hP.sub [] rfl)) rfl rfl hl.1 rfl (lv_room (Nat.le_of_ble_eq_true rfl)) dX4_dirtyAt_1 ⟨Nat.zero_le _, Nat.zero_le _⟩) ?_
  refine lv_if_eq (tgt := 27) hx hb dX4_dirtyAt_4 (by decide) (fun c_4 => ?_) (fun c_4 => ?_)
  · skip
    have c_4 : ¬ (pIn i 0 1) := gb_eq0.mp c_4
    refine lv_iconst (v := nI 0) hx hb dX4_dirtyAt_27 (by decide) ?_
    refine lv_istore_n (lv' := [(3, .int (nI 0)), (0, .ref (q 0)), (1, .int i), (2, .int j)]) hx hb dX4_dirtyAt_28 rfl hl (by decide) rfl (fun ls hl => ?_)
    refine lv_aload_n hx hb dX4_dirtyAt_29 rfl (lv_at hl 1 rfl) ?_
    refine lv_iload_n hx hb dX4_dirtyAt_30 rfl (lv_at hl 2 rfl) ?_
    refine gc_Si (va_runS (As := [.int i]) (rest := [.ref (q 0)]) ⟨hx, hb, hml, hown, hts⟩ (c_X4_isClient l D cy i) (va_cwS 1 hts gX4_dirtyAt_X4_isClient rfl rfl rfl (by decide +kernel) ⟨Nat.le_of_ble_eq_true rfl, Nat.le_of_ble_eq_true rfl⟩) (gpSR hG (hP.sub [] rfl)) rfl rfl hl.1 rfl (lv_room (Nat.le_of_ble_eq_true rfl)) dX4_dirtyAt_31 ⟨Nat.zero_le _, Nat.zero_le _⟩) ?_
    refine lv_if_ne (tgt := 41) hx hb dX4_dirtyAt_34 (by decide) (fun c_34 => ?_) (fun c_34 => ?_)
    · skip
      have c_34 : pIn i 0 1 := gb_ne0.mp c_34
      exact absurd c_34 (hn)
    · skip
      have c_34 : ¬ (pIn i 0 1) := gb_eq0.mp c_34
      refine lv_iconst (v := nI 1) hx hb dX4_dirtyAt_37 (by decide) ?_
      refine lv_goto (tgt := 63) hx hb dX4_dirtyAt_38 (by decide) ?_
      refine gc_Wi (wn := fun u => [(q 0, eMod (nI 1) q U)]) (wr := []) (va_runV (As := [.int (nI 1)]) (rest := []) ⟨hx, hb, hml, hown, hts⟩ (c_X4_goesWell l D cy H.size q T U 1 (by decide)) (cwV 1 hts gX4_dirtyAt_X4_goesWell rfl rfl rfl (by decide +kernel) ⟨Nat.le_of_ble_eq_true rfl, Nat.le_of_ble_eq_true rfl⟩) (gpVI (ci := 4) (q0 := 0) hG (hP.sub [0] rfl) (hD.sub [0] (by decide) rfl) rfl rfl) rfl rfl hl.1 rfl (lv_room (Nat.le_of_ble_eq_true rfl)) dX4_dirtyAt_63 ⟨Nat.zero_le _, Nat.zero_le _⟩) hP hD hS hA [0] [] [0] rfl rfl (by decide) (by decide) (fun _ => rfl) (by decide) (fun r_63 _u H locs hw_63 hP hD hS => ?_)
      have hP : va_P D vwCl [(q 0, eMod (nI 1) q U)] H := hP
      have hD : va_D AA [(q 0, eMod (nI 1) q U)] := hD
      obtain ⟨hr_63, hw_63⟩ := hw_63
      refine g_ti (y := gb (1 = 0)) hr_63 ?_
      have hw_63 : True := hw_63
      refine lv_if_eq (tgt := 83) hx hb dX4_dirtyAt_66 (by decide) (fun c_66 => ?_) (fun c_66 => ?_)
      · skip
        have c_66 : ¬ (1 = 0) := gb_eq0.mp c_66
        refine lv_iconst (v := nI 0) hx hb dX4_dirtyAt_83 (by decide) ?_
        exact hret _ _ _ _ _ () dX4_dirtyAt_84 (⟨rfl, trivial⟩) (hP.sub [0] rfl) (hD.sub [0] (by decide) rfl) hS
      · skip
        have c_66 : 1 = 0 := gb_ne0.mp c_66
        exact absurd c_66 (by decide)
  · skip
    have c_4 : pIn i 0 1 := gb_ne0.mp c_4
    exact absurd c_4 (hn)
theorem iX4_dirtyAt_X4 : ∀ w ∈ wsX40, w ∈ wsX4_dirtyAt := by decide +kernel
set_option maxHeartbeats 4000000 in
set_option maxRecDepth 100000 in
theorem c_X4_dirtyAt_s (l : Launch) (D : va_G) (cy : Nat → ClassId) (sz : Nat) (q : Nat → Nat) (T U : Int32) (i : Nat) (is mn : Nat → Int32) (J : Prop) (j : Int32) (hi : i < 2) (hj : is i = gb (J)) (hJ : ¬ J) : Met l yX4_dirtyAt wsX4_dirtyAt ({ frames := 2, cells := 0, slots := 0, locals := 42 } : Room) (va_Pc [.ref (q 0), .int (nI i), .int j] (gI D (gT cy) [(q 0, eMod T q U), (q 3, eZ cy 2 is), (q 10, eI cy 2 mn)] sz)) (va_Qi (fun (r9 : Int32) (u : Unit) => r9 = nI 0 ∧ ((True))) (gO D (fun u : Unit => [(q 0, eMod (nI 2) q U), (q 3, eZ cy 2 is), (q 10, eI cy 2 mn)]) (va_A [(q 0, eMod T q U), (q 3, eZ cy 2 is), (q 10, eI cy 2 mn)] sz)) (va_A [(q 0, eMod T q U), (q 3, eZ cy 2 is), (q 10, eI cy 2 mn)] sz)) 0 0 (va_A [(q 0, eMod T q U), (q 3, eZ cy 2 is), (q 10, eI cy 2 mn)] sz) := by
  refine gW_i (cc := cX4_dirtyAt) (maxL := 4) (ty := .int) (by decide) rfl (Nat.le_of_ble_eq_true rfl) (fun v u hv => by rfl) ?_
  intro pp ee ss mm bw mt cd QQ AA ls hfx hP hG hD hA hret hl
  have hS : va_S AA ss.heap ss.heap [] := va_S.rf
  obtain ⟨H, eH⟩ : ∃ H, H = ss.heap := ⟨_, rfl⟩
  obtain ⟨locs, eL⟩ : ∃ L : List Loc, L = [] := ⟨_, rfl⟩
  have hP : va_P D vwCl [(q 0, eMod T q U), (q 3, eZ cy 2 is), (q 10, eI cy 2 mn)] H := by rw [eH]; exact hP
  have hS : va_S AA ss.heap H locs := by rw [eH, eL]; exact hS
  have goal : ∀ X Y, X = H → Y = locs → W pp l ee ({ frames := 2, cells := 0, slots := 0, locals := 42 } : Room) ss mm ([.ref (q 0), .int (nI i), .int j] : List Value).toArray bw mt cd X Y 0 0 QQ (F0 mm 0 ls []) → W pp l ee ({ frames := 2, cells := 0, slots := 0, locals := 42 } : Room) ss mm ([.ref (q 0), .int (nI i), .int j] : List Value).toArray bw mt cd ss.heap [] 0 0 QQ (F0 mm 0 ls []) := fun X Y hX hY h => by rw [hX, hY, eH, eL] at h; exact h
  refine goal H locs rfl rfl ?_
  clear goal eH eL
  obtain ⟨hx, hb, hml, hown, hts, hlocks⟩ := hfx
  have hown : ss.vm.findClass RX4 = some mm.cls := hown
  have hl : lv_has ls 4 [(0, .ref (q 0)), (1, .int (nI i)), (2, .int j)] := hl
  refine lv_iload_n hx hb dX4_dirtyAt_0 rfl (lv_at hl 1 rfl) ?_
  refine gc_Si (va_runS (As := [.int (nI i)]) (rest := []) ⟨hx, hb, hml, hown, hts⟩ (c_X4_isClient l D cy (nI i)) (va_cwS 1 hts gX4_dirtyAt_X4_isClient rfl rfl rfl (by decide +kernel) ⟨Nat.le_of_ble_eq_true rfl, Nat.le_of_ble_eq_true rfl⟩) (gpSR hG (hP.sub [] rfl)) rfl rfl hl.1 rfl (lv_room (Nat.le_of_ble_eq_true rfl)) dX4_dirtyAt_1 ⟨Nat.zero_le _, Nat.zero_le _⟩) ?_
  refine lv_if_eq (tgt := 27) hx hb dX4_dirtyAt_4 (by decide) (fun c_4 => ?_) (fun c_4 => ?_)
  · skip
    have c_4 : ¬ (pIn (nI i) 0 1) := gb_eq0.mp c_4
    exact absurd (ok_idx (n := 1) (by omega) (by decide)) c_4
  · skip
    have c_4 : pIn (nI i) 0 1 := gb_ne0.mp c_4
    refine lv_iload_n hx hb dX4_dirtyAt_7 rfl (lv_at hl 2 rfl) ?_
    refine lv_iconst (v := nI 0) hx hb dX4_dirtyAt_8 (by decide) ?_
    refine lv_aload_n hx hb dX4_dirtyAt_9 rfl (lv_at hl 0 rfl) ?_
    refine va_get (D := D) (ci := 4) (v := .ref (q 10)) (C := RX4) (T := TX4) (N := 17) hx hb hts iX4_dirtyAt_X4 hown hG.1 hP 0 rfl rfl 10 (by decide) (hts (.fieldLink RX4 38 "DirtyTilesModel" "many" "[I") (by decide +kernel)) (fun _ h9 => h9) rfl dX4_dirtyAt_10 ?_
    refine lv_iload_n hx hb dX4_dirtyAt_13 rfl (lv_at hl 1 rfl) ?_
    refine g_iald hx hb hG hP 2 0 rfl rfl (k := i) (by omega) (by decide) dX4_dirtyAt_14 ?_
    refine lv_iconst (v := nI 1) hx hb dX4_dirtyAt_15 (by decide) ?_
    refine lv_isub hx hb dX4_dirtyAt_16 ?_
    refine gc_Si (va_runS (As := [.int j, .int (nI 0), .int ((mn i) - (nI 1))]) (rest := []) ⟨hx, hb, hml, hown, hts⟩ (c_X4_in l D cy j (nI 0) ((mn i) - (nI 1))) (va_cwS 3 hts gX4_dirtyAt_X4_in rfl rfl rfl (by decide +kernel) ⟨Nat.le_of_ble_eq_true rfl, Nat.le_of_ble_eq_true rfl⟩) (gpSR hG (hP.sub [] rfl)) rfl rfl hl.1 rfl (lv_room (Nat.le_of_ble_eq_true rfl)) dX4_dirtyAt_17 ⟨Nat.zero_le _, Nat.zero_le _⟩) ?_
    refine lv_if_eq (tgt := 27) hx hb dX4_dirtyAt_20 (by decide) (fun c_20 => ?_) (fun c_20 => ?_)
    · skip
      have c_20 : ¬ (pIn j (nI 0).toInt ((mn i) - (nI 1)).toInt) := gb_eq0.mp c_20
      refine lv_iconst (v := nI 0) hx hb dX4_dirtyAt_27 (by decide) ?_
      refine lv_istore_n (lv' := [(3, .int (nI 0)), (0, .ref (q 0)), (1, .int (nI i)), (2, .int j)]) hx hb dX4_dirtyAt_28 rfl hl (by decide) rfl (fun ls hl => ?_)
      refine lv_aload_n hx hb dX4_dirtyAt_29 rfl (lv_at hl 1 rfl) ?_
      refine lv_iload_n hx hb dX4_dirtyAt_30 rfl (lv_at hl 2 rfl) ?_
      refine gc_Si (va_runS (As := [.int (nI i)]) (rest := [.ref (q 0)]) ⟨hx, hb, hml, hown, hts⟩ (c_X4_isClient l D cy (nI i)) (va_cwS 1 hts gX4_dirtyAt_X4_isClient rfl rfl rfl (by decide +kernel) ⟨Nat.le_of_ble_eq_true rfl, Nat.le_of_ble_eq_true rfl⟩) (gpSR hG (hP.sub [] rfl)) rfl rfl hl.1 rfl (lv_room (Nat.le_of_ble_eq_true rfl)) dX4_dirtyAt_31 ⟨Nat.zero_le _, Nat.zero_le _⟩) ?_
      refine lv_if_ne (tgt := 41) hx hb dX4_dirtyAt_34 (by decide) (fun c_34 => ?_) (fun c_34 => ?_)
      · skip
        have c_34 : pIn (nI i) 0 1 := gb_ne0.mp c_34
        refine lv_aload_n hx hb dX4_dirtyAt_41 rfl (lv_at hl 1 rfl) ?_
        refine va_get (D := D) (ci := 4) (v := .ref (q 3)) (C := RX4) (T := TX4) (N := 17) hx hb hts iX4_dirtyAt_X4 hown hG.1 hP 0 rfl rfl 3 (by decide) (hts (.fieldLink RX4 16 "DirtyTilesModel" "isIn" "[Z") (by decide +kernel)) (fun _ h9 => h9) rfl dX4_dirtyAt_42 ?_
        refine lv_iload_n hx hb dX4_dirtyAt_45 rfl (lv_at hl 2 rfl) ?_
        refine g_zald hx hb hG hP 1 2 rfl rfl (k := i) (by omega) (by decide) dX4_dirtyAt_46 ?_
        refine g_ti (y := gb (J)) (hj) ?_
        refine lv_if_ne (tgt := 54) hx hb dX4_dirtyAt_47 (by decide) (fun c_47 => ?_) (fun c_47 => ?_)
        · skip
          have c_47 : J := gb_ne0.mp c_47
          exact absurd c_47 (hJ)
        · skip
          have c_47 : ¬ (J) := gb_eq0.mp c_47
          refine lv_iconst (v := nI 2) hx hb dX4_dirtyAt_50 (by decide) ?_
          refine lv_goto (tgt := 63) hx hb dX4_dirtyAt_51 (by decide) ?_
          refine gc_Wi (wn := fun u => [(q 0, eMod (nI 2) q U), (q 3, eZ cy 2 is), (q 10, eI cy 2 mn)]) (wr := [(q 3, eZ cy 2 is), (q 10, eI cy 2 mn)]) (va_runV (As := [.int (nI 2)]) (rest := []) ⟨hx, hb, hml, hown, hts⟩ (c_X4_goesWell l D cy H.size q T U 2 (by decide)) (cwV 1 hts gX4_dirtyAt_X4_goesWell rfl rfl rfl (by decide +kernel) ⟨Nat.le_of_ble_eq_true rfl, Nat.le_of_ble_eq_true rfl⟩) (gpVI (ci := 4) (q0 := 0) hG (hP.sub [0] rfl) (hD.sub [0] (by decide) rfl) rfl rfl) rfl rfl hl.1 rfl (lv_room (Nat.le_of_ble_eq_true rfl)) dX4_dirtyAt_63 ⟨Nat.zero_le _, Nat.zero_le _⟩) hP hD hS hA [0] [1, 2] [2, 0, 1] rfl rfl (by decide) (by decide) (fun _ => rfl) (by decide) (fun r_63 _u H locs hw_63 hP hD hS => ?_)
          have hP : va_P D vwCl [(q 0, eMod (nI 2) q U), (q 3, eZ cy 2 is), (q 10, eI cy 2 mn)] H := hP
          have hD : va_D AA [(q 0, eMod (nI 2) q U), (q 3, eZ cy 2 is), (q 10, eI cy 2 mn)] := hD
          obtain ⟨hr_63, hw_63⟩ := hw_63
          refine g_ti (y := gb (2 = 0)) hr_63 ?_
          have hw_63 : True := hw_63
          refine lv_if_eq (tgt := 83) hx hb dX4_dirtyAt_66 (by decide) (fun c_66 => ?_) (fun c_66 => ?_)
          · skip
            have c_66 : ¬ (2 = 0) := gb_eq0.mp c_66
            refine lv_iconst (v := nI 0) hx hb dX4_dirtyAt_83 (by decide) ?_
            exact hret _ _ _ _ _ () dX4_dirtyAt_84 (⟨rfl, trivial⟩) (hP.sub [0, 1, 2] rfl) (hD.sub [0, 1, 2] (by decide) rfl) hS
          · skip
            have c_66 : 2 = 0 := gb_ne0.mp c_66
            exact absurd c_66 (by decide)
      · skip
        have c_34 : ¬ (pIn (nI i) 0 1) := gb_eq0.mp c_34
        exact absurd (ok_idx (n := 1) (by omega) (by decide)) c_34
    · skip
      have c_20 : pIn j (nI 0).toInt ((mn i) - (nI 1)).toInt := gb_ne0.mp c_20
      refine lv_iconst (v := nI 1) hx hb dX4_dirtyAt_23 (by decide) ?_
      refine lv_goto (tgt := 28) hx hb dX4_dirtyAt_24 (by decide) ?_
      refine lv_istore_n (lv' := [(3, .int (nI 1)), (0, .ref (q 0)), (1, .int (nI i)), (2, .int j)]) hx hb dX4_dirtyAt_28 rfl hl (by decide) rfl (fun ls hl => ?_)
      refine lv_aload_n hx hb dX4_dirtyAt_29 rfl (lv_at hl 1 rfl) ?_
      refine lv_iload_n hx hb dX4_dirtyAt_30 rfl (lv_at hl 2 rfl) ?_
      refine gc_Si (va_runS (As := [.int (nI i)]) (rest := [.ref (q 0)]) ⟨hx, hb, hml, hown, hts⟩ (c_X4_isClient l D cy (nI i)) (va_cwS 1 hts gX4_dirtyAt_X4_isClient rfl rfl rfl (by decide +kernel) ⟨Nat.le_of_ble_eq_true rfl, Nat.le_of_ble_eq_true rfl⟩) (gpSR hG (hP.sub [] rfl)) rfl rfl hl.1 rfl (lv_room (Nat.le_of_ble_eq_true rfl)) dX4_dirtyAt_31 ⟨Nat.zero_le _, Nat.zero_le _⟩) ?_
      refine lv_if_ne (tgt := 41) hx hb dX4_dirtyAt_34 (by decide) (fun c_34 => ?_) (fun c_34 => ?_)
      · skip
        have c_34 : pIn (nI i) 0 1 := gb_ne0.mp c_34
        refine lv_aload_n hx hb dX4_dirtyAt_41 rfl (lv_at hl 1 rfl) ?_
        refine va_get (D := D) (ci := 4) (v := .ref (q 3)) (C := RX4) (T := TX4) (N := 17) hx hb hts iX4_dirtyAt_X4 hown hG.1 hP 0 rfl rfl 3 (by decide) (hts (.fieldLink RX4 16 "DirtyTilesModel" "isIn" "[Z") (by decide +kernel)) (fun _ h9 => h9) rfl dX4_dirtyAt_42 ?_
        refine lv_iload_n hx hb dX4_dirtyAt_45 rfl (lv_at hl 2 rfl) ?_
        refine g_zald hx hb hG hP 1 2 rfl rfl (k := i) (by omega) (by decide) dX4_dirtyAt_46 ?_
        refine g_ti (y := gb (J)) (hj) ?_
        refine lv_if_ne (tgt := 54) hx hb dX4_dirtyAt_47 (by decide) (fun c_47 => ?_) (fun c_47 => ?_)
        · skip
          have c_47 : J := gb_ne0.mp c_47
          exact absurd c_47 (hJ)
        · skip
          have c_47 : ¬ (J) := gb_eq0.mp c_47
          refine lv_iconst (v := nI 2) hx hb dX4_dirtyAt_50 (by decide) ?_
          refine lv_goto (tgt := 63) hx hb dX4_dirtyAt_51 (by decide) ?_
          refine gc_Wi (wn := fun u => [(q 0, eMod (nI 2) q U), (q 3, eZ cy 2 is), (q 10, eI cy 2 mn)]) (wr := [(q 3, eZ cy 2 is), (q 10, eI cy 2 mn)]) (va_runV (As := [.int (nI 2)]) (rest := []) ⟨hx, hb, hml, hown, hts⟩ (c_X4_goesWell l D cy H.size q T U 2 (by decide)) (cwV 1 hts gX4_dirtyAt_X4_goesWell rfl rfl rfl (by decide +kernel) ⟨Nat.le_of_ble_eq_true rfl, Nat.le_of_ble_eq_true rfl⟩) (gpVI (ci := 4) (q0 := 0) hG (hP.sub [0] rfl) (hD.sub [0] (by decide) rfl) rfl rfl) rfl rfl hl.1 rfl (lv_room (Nat.le_of_ble_eq_true rfl)) dX4_dirtyAt_63 ⟨Nat.zero_le _, Nat.zero_le _⟩) hP hD hS hA [0] [1, 2] [2, 0, 1] rfl rfl (by decide) (by decide) (fun _ => rfl) (by decide) (fun r_63 _u H locs hw_63 hP hD hS => ?_)
          have hP : va_P D vwCl [(q 0, eMod (nI 2) q U), (q 3, eZ cy 2 is), (q 10, eI cy 2 mn)] H := hP
          have hD : va_D AA [(q 0, eMod (nI 2) q U), (q 3, eZ cy 2 is), (q 10, eI cy 2 mn)] := hD
          obtain ⟨hr_63, hw_63⟩ := hw_63
          refine g_ti (y := gb (2 = 0)) hr_63 ?_
          have hw_63 : True := hw_63
          refine lv_if_eq (tgt := 83) hx hb dX4_dirtyAt_66 (by decide) (fun c_66 => ?_) (fun c_66 => ?_)
          · skip
            have c_66 : ¬ (2 = 0) := gb_eq0.mp c_66
            refine lv_iconst (v := nI 0) hx hb dX4_dirtyAt_83 (by decide) ?_
            exact hret _ _ _ _ _ () dX4_dirtyAt_84 (⟨rfl, trivial⟩) (hP.sub [0, 1, 2] rfl) (hD.sub [0, 1, 2] (by decide) rfl) hS
          · skip
            have c_66 : 2 = 0 := gb_ne0.mp c_66
            exact absurd c_66 (by decide)
      · skip
        have c_34 : ¬ (pIn (nI i) 0 1) := gb_eq0.mp c_34
        exact absurd (ok_idx (n := 1) (by omega) (by decide)) c_34
set_option maxHeartbeats 4000000 in
set_option maxRecDepth 100000 in
theorem c_X4_dirtyAt_o (l : Launch) (D : va_G) (cy : Nat → ClassId) (sz : Nat) (q : Nat → Nat) (T U : Int32) (i n : Nat) (is mn : Nat → Int32) (J : Prop) (j : Int32) (hi : i < 2) (hj : is i = gb (J)) (hJ : J) (hm9 : mn i = nI n) (hn : n ≤ 12) (hjn : ¬ pIn j 0 ((n : Int) - 1)) : Met l yX4_dirtyAt wsX4_dirtyAt ({ frames := 2, cells := 0, slots := 0, locals := 42 } : Room) (va_Pc [.ref (q 0), .int (nI i), .int j] (gI D (gT cy) [(q 0, eMod T q U), (q 3, eZ cy 2 is), (q 10, eI cy 2 mn)] sz)) (va_Qi (fun (r9 : Int32) (u : Unit) => r9 = nI 0 ∧ ((True))) (gO D (fun u : Unit => [(q 0, eMod (nI 3) q U), (q 3, eZ cy 2 is), (q 10, eI cy 2 mn)]) (va_A [(q 0, eMod T q U), (q 3, eZ cy 2 is), (q 10, eI cy 2 mn)] sz)) (va_A [(q 0, eMod T q U), (q 3, eZ cy 2 is), (q 10, eI cy 2 mn)] sz)) 0 0 (va_A [(q 0, eMod T q U), (q 3, eZ cy 2 is), (q 10, eI cy 2 mn)] sz) := by
  refine gW_i (cc := cX4_dirtyAt) (maxL := 4) (ty := .int) (by decide) rfl (Nat.le_of_ble_eq_true rfl) (fun v u hv => by rfl) ?_
  intro pp ee ss mm bw mt cd QQ AA ls hfx hP hG hD hA hret hl
  have hS : va_S AA ss.heap ss.heap [] := va_S.rf
  obtain ⟨H, eH⟩ : ∃ H, H = ss.heap := ⟨_, rfl⟩
  obtain ⟨locs, eL⟩ : ∃ L : List Loc, L = [] := ⟨_, rfl⟩
  have hP : va_P D vwCl [(q 0, eMod T q U), (q 3, eZ cy 2 is), (q 10, eI cy 2 mn)] H := by rw [eH]; exact hP
  have hS : va_S AA ss.heap H locs := by rw [eH, eL]; exact hS
  have goal : ∀ X Y, X = H → Y = locs → W pp l ee ({ frames := 2, cells := 0, slots := 0, locals := 42 } : Room) ss mm ([.ref (q 0), .int (nI i), .int j] : List Value).toArray bw mt cd X Y 0 0 QQ (F0 mm 0 ls []) → W pp l ee ({ frames := 2, cells := 0, slots := 0, locals := 42 } : Room) ss mm ([.ref (q 0), .int (nI i), .int j] : List Value).toArray bw mt cd ss.heap [] 0 0 QQ (F0 mm 0 ls []) := fun X Y hX hY h => by rw [hX, hY, eH, eL] at h; exact h
  refine goal H locs rfl rfl ?_
  clear goal eH eL
  obtain ⟨hx, hb, hml, hown, hts, hlocks⟩ := hfx
  have hown : ss.vm.findClass RX4 = some mm.cls := hown
  have hl : lv_has ls 4 [(0, .ref (q 0)), (1, .int (nI i)), (2, .int j)] := hl
  refine lv_iload_n hx hb dX4_dirtyAt_0 rfl (lv_at hl 1 rfl) ?_
  refine gc_Si (va_runS (As := [.int (nI i)]) (rest := []) ⟨hx, hb, hml, hown, hts⟩ (c_X4_isClient l D cy (nI i)) (va_cwS 1 hts gX4_dirtyAt_X4_isClient rfl rfl rfl (by decide +kernel) ⟨Nat.le_of_ble_eq_true rfl, Nat.le_of_ble_eq_true rfl⟩) (gpSR hG (hP.sub [] rfl)) rfl rfl hl.1 rfl (lv_room (Nat.le_of_ble_eq_true rfl)) dX4_dirtyAt_1 ⟨Nat.zero_le _, Nat.zero_le _⟩) ?_
  refine lv_if_eq (tgt := 27) hx hb dX4_dirtyAt_4 (by decide) (fun c_4 => ?_) (fun c_4 => ?_)
  · skip
    have c_4 : ¬ (pIn (nI i) 0 1) := gb_eq0.mp c_4
    exact absurd (ok_idx (n := 1) (by omega) (by decide)) c_4
  · skip
    have c_4 : pIn (nI i) 0 1 := gb_ne0.mp c_4
    refine lv_iload_n hx hb dX4_dirtyAt_7 rfl (lv_at hl 2 rfl) ?_
    refine lv_iconst (v := nI 0) hx hb dX4_dirtyAt_8 (by decide) ?_
    refine lv_aload_n hx hb dX4_dirtyAt_9 rfl (lv_at hl 0 rfl) ?_
    refine va_get (D := D) (ci := 4) (v := .ref (q 10)) (C := RX4) (T := TX4) (N := 17) hx hb hts iX4_dirtyAt_X4 hown hG.1 hP 0 rfl rfl 10 (by decide) (hts (.fieldLink RX4 38 "DirtyTilesModel" "many" "[I") (by decide +kernel)) (fun _ h9 => h9) rfl dX4_dirtyAt_10 ?_
    refine lv_iload_n hx hb dX4_dirtyAt_13 rfl (lv_at hl 1 rfl) ?_
    refine g_iald hx hb hG hP 2 0 rfl rfl (k := i) (by omega) (by decide) dX4_dirtyAt_14 ?_
    refine g_ti (y := nI n) (hm9) ?_
    refine lv_iconst (v := nI 1) hx hb dX4_dirtyAt_15 (by decide) ?_
    refine lv_isub hx hb dX4_dirtyAt_16 ?_
    refine gc_Si (va_runS (As := [.int j, .int (nI 0), .int ((nI n) - (nI 1))]) (rest := []) ⟨hx, hb, hml, hown, hts⟩ (c_X4_in l D cy j (nI 0) ((nI n) - (nI 1))) (va_cwS 3 hts gX4_dirtyAt_X4_in rfl rfl rfl (by decide +kernel) ⟨Nat.le_of_ble_eq_true rfl, Nat.le_of_ble_eq_true rfl⟩) (gpSR hG (hP.sub [] rfl)) rfl rfl hl.1 rfl (lv_room (Nat.le_of_ble_eq_true rfl)) dX4_dirtyAt_17 ⟨Nat.zero_le _, Nat.zero_le _⟩) ?_
    refine lv_if_eq (tgt := 27) hx hb dX4_dirtyAt_20 (by decide) (fun c_20 => ?_) (fun c_20 => ?_)
    · skip
      have c_20 : ¬ (pIn j (nI 0).toInt ((nI n) - (nI 1)).toInt) := gb_eq0.mp c_20
      refine lv_iconst (v := nI 0) hx hb dX4_dirtyAt_27 (by decide) ?_
      refine lv_istore_n (lv' := [(3, .int (nI 0)), (0, .ref (q 0)), (1, .int (nI i)), (2, .int j)]) hx hb dX4_dirtyAt_28 rfl hl (by decide) rfl (fun ls hl => ?_)
      refine lv_aload_n hx hb dX4_dirtyAt_29 rfl (lv_at hl 1 rfl) ?_
      refine lv_iload_n hx hb dX4_dirtyAt_30 rfl (lv_at hl 2 rfl) ?_
      refine gc_Si (va_runS (As := [.int (nI i)]) (rest := [.ref (q 0)]) ⟨hx, hb, hml, hown, hts⟩ (c_X4_isClient l D cy (nI i)) (va_cwS 1 hts gX4_dirtyAt_X4_isClient rfl rfl rfl (by decide +kernel) ⟨Nat.le_of_ble_eq_true rfl, Nat.le_of_ble_eq_true rfl⟩) (gpSR hG (hP.sub [] rfl)) rfl rfl hl.1 rfl (lv_room (Nat.le_of_ble_eq_true rfl)) dX4_dirtyAt_31 ⟨Nat.zero_le _, Nat.zero_le _⟩) ?_
      refine lv_if_ne (tgt := 41) hx hb dX4_dirtyAt_34 (by decide) (fun c_34 => ?_) (fun c_34 => ?_)
      · skip
        have c_34 : pIn (nI i) 0 1 := gb_ne0.mp c_34
        refine lv_aload_n hx hb dX4_dirtyAt_41 rfl (lv_at hl 1 rfl) ?_
        refine va_get (D := D) (ci := 4) (v := .ref (q 3)) (C := RX4) (T := TX4) (N := 17) hx hb hts iX4_dirtyAt_X4 hown hG.1 hP 0 rfl rfl 3 (by decide) (hts (.fieldLink RX4 16 "DirtyTilesModel" "isIn" "[Z") (by decide +kernel)) (fun _ h9 => h9) rfl dX4_dirtyAt_42 ?_
        refine lv_iload_n hx hb dX4_dirtyAt_45 rfl (lv_at hl 2 rfl) ?_
        refine g_zald hx hb hG hP 1 2 rfl rfl (k := i) (by omega) (by decide) dX4_dirtyAt_46 ?_
        refine g_ti (y := gb (J)) (hj) ?_
        refine lv_if_ne (tgt := 54) hx hb dX4_dirtyAt_47 (by decide) (fun c_47 => ?_) (fun c_47 => ?_)
        · skip
          have c_47 : J := gb_ne0.mp c_47
          refine lv_iload_n hx hb dX4_dirtyAt_54 rfl (lv_at hl 0 rfl) ?_
          refine lv_if_eq (tgt := 62) hx hb dX4_dirtyAt_55 (by decide) (fun c_55 => ?_) (fun c_55 => ?_)
          · skip
            have c_55 : 0 = 0 := (nI_eq (a := 0) (b := 0) (by omega) (by omega)).mp c_55
            refine lv_iconst (v := nI 3) hx hb dX4_dirtyAt_62 (by decide) ?_
            refine gc_Wi (wn := fun u => [(q 0, eMod (nI 3) q U), (q 3, eZ cy 2 is), (q 10, eI cy 2 mn)]) (wr := [(q 3, eZ cy 2 is), (q 10, eI cy 2 mn)]) (va_runV (As := [.int (nI 3)]) (rest := []) ⟨hx, hb, hml, hown, hts⟩ (c_X4_goesWell l D cy H.size q T U 3 (by decide)) (cwV 1 hts gX4_dirtyAt_X4_goesWell rfl rfl rfl (by decide +kernel) ⟨Nat.le_of_ble_eq_true rfl, Nat.le_of_ble_eq_true rfl⟩) (gpVI (ci := 4) (q0 := 0) hG (hP.sub [0] rfl) (hD.sub [0] (by decide) rfl) rfl rfl) rfl rfl hl.1 rfl (lv_room (Nat.le_of_ble_eq_true rfl)) dX4_dirtyAt_63 ⟨Nat.zero_le _, Nat.zero_le _⟩) hP hD hS hA [0] [1, 2] [2, 0, 1] rfl rfl (by decide) (by decide) (fun _ => rfl) (by decide) (fun r_63 _u H locs hw_63 hP hD hS => ?_)
            have hP : va_P D vwCl [(q 0, eMod (nI 3) q U), (q 3, eZ cy 2 is), (q 10, eI cy 2 mn)] H := hP
            have hD : va_D AA [(q 0, eMod (nI 3) q U), (q 3, eZ cy 2 is), (q 10, eI cy 2 mn)] := hD
            obtain ⟨hr_63, hw_63⟩ := hw_63
            refine g_ti (y := gb (3 = 0)) hr_63 ?_
            have hw_63 : True := hw_63
            refine lv_if_eq (tgt := 83) hx hb dX4_dirtyAt_66 (by decide) (fun c_66 => ?_) (fun c_66 => ?_)
            · skip
              have c_66 : ¬ (3 = 0) := gb_eq0.mp c_66
              refine lv_iconst (v := nI 0) hx hb dX4_dirtyAt_83 (by decide) ?_
              exact hret _ _ _ _ _ () dX4_dirtyAt_84 (⟨rfl, trivial⟩) (hP.sub [0, 1, 2] rfl) (hD.sub [0, 1, 2] (by decide) rfl) hS
            · skip
              have c_66 : 3 = 0 := gb_ne0.mp c_66
              exact absurd c_66 (by decide)
          · skip
            have c_55 : ¬ 0 = 0 := fun z => c_55 ((nI_eq (a := 0) (b := 0) (by omega) (by omega)).mpr z)
            exact absurd c_55 (by decide)
        · skip
          have c_47 : ¬ (J) := gb_eq0.mp c_47
          exact absurd (hJ) c_47
      · skip
        have c_34 : ¬ (pIn (nI i) 0 1) := gb_eq0.mp c_34
        exact absurd (ok_idx (n := 1) (by omega) (by decide)) c_34
    · skip
      have c_20 : pIn j (nI 0).toInt ((nI n) - (nI 1)).toInt := gb_ne0.mp c_20
      exact absurd c_20 (in_no (by omega) hjn)
theorem iX4_colour_X4 : ∀ w ∈ wsX40, w ∈ wsX4_colour := by decide +kernel
set_option maxHeartbeats 4000000 in
set_option maxRecDepth 100000 in
theorem c_X4_colour (l : Launch) (D : va_G) (cy : Nat → ClassId) (sz : Nat) (q : Nat → Nat) (T U : Int32) (sc : Nat → Int32) (S : Nat → Int64) (x y : Nat) (hs : hS S sc) (hx9 : x < 16) (hy9 : y < 12) : Met l yX4_colour wsX4_colour ({ frames := 2, cells := 0, slots := 0, locals := 43 } : Room) (va_Pc [.ref (q 0), .int (nI x), .int (nI y)] (gI D (gT cy) [(q 0, eMod T q U), (q 1, eI cy 192 sc)] sz)) (va_Qi (fun (r9 : Int32) (u : Unit) => r9 = nI (at2 S x y) ∧ ((True))) (gO D (fun u : Unit => [(q 0, eMod (nI 0) q U), (q 1, eI cy 192 sc)]) (va_A [(q 0, eMod T q U), (q 1, eI cy 192 sc)] sz)) (va_A [(q 0, eMod T q U), (q 1, eI cy 192 sc)] sz)) 0 0 (va_A [(q 0, eMod T q U), (q 1, eI cy 192 sc)] sz) := by
  refine gW_i (cc := cX4_colour) (maxL := 3) (ty := .int) (by decide) rfl (Nat.le_of_ble_eq_true rfl) (fun v u hv => by rfl) ?_
  intro pp ee ss mm bw mt cd QQ AA ls hfx hP hG hD hA hret hl
  have hS : va_S AA ss.heap ss.heap [] := va_S.rf
  obtain ⟨H, eH⟩ : ∃ H, H = ss.heap := ⟨_, rfl⟩
  obtain ⟨locs, eL⟩ : ∃ L : List Loc, L = [] := ⟨_, rfl⟩
  have hP : va_P D vwCl [(q 0, eMod T q U), (q 1, eI cy 192 sc)] H := by rw [eH]; exact hP
  have hS : va_S AA ss.heap H locs := by rw [eH, eL]; exact hS
  have goal : ∀ X Y, X = H → Y = locs → W pp l ee ({ frames := 2, cells := 0, slots := 0, locals := 43 } : Room) ss mm ([.ref (q 0), .int (nI x), .int (nI y)] : List Value).toArray bw mt cd X Y 0 0 QQ (F0 mm 0 ls []) → W pp l ee ({ frames := 2, cells := 0, slots := 0, locals := 43 } : Room) ss mm ([.ref (q 0), .int (nI x), .int (nI y)] : List Value).toArray bw mt cd ss.heap [] 0 0 QQ (F0 mm 0 ls []) := fun X Y hX hY h => by rw [hX, hY, eH, eL] at h; exact h
  refine goal H locs rfl rfl ?_
  clear goal eH eL
  obtain ⟨hx, hb, hml, hown, hts, hlocks⟩ := hfx
  have hown : ss.vm.findClass RX4 = some mm.cls := hown
  have hl : lv_has ls 3 [(0, .ref (q 0)), (1, .int (nI x)), (2, .int (nI y))] := hl
  refine lv_aload_n hx hb dX4_colour_0 rfl (lv_at hl 0 rfl) ?_
  refine lv_iload_n hx hb dX4_colour_1 rfl (lv_at hl 1 rfl) ?_
  refine lv_iload_n hx hb dX4_colour_2 rfl (lv_at hl 2 rfl) ?_
  refine gc_Si (va_runS (As := [.int (nI x), .int (nI y)]) (rest := [.ref (q 0)]) ⟨hx, hb, hml, hown, hts⟩ (c_X4_isCell l D cy (nI x) (nI y)) (va_cwS 2 hts gX4_colour_X4_isCell rfl rfl rfl (by decide +kernel) ⟨Nat.le_of_ble_eq_true rfl, Nat.le_of_ble_eq_true rfl⟩) (gpSR hG (hP.sub [] rfl)) rfl rfl hl.1 rfl (lv_room (Nat.le_of_ble_eq_true rfl)) dX4_colour_3 ⟨Nat.zero_le _, Nat.zero_le _⟩) ?_
  refine lv_if_eq (tgt := 13) hx hb dX4_colour_6 (by decide) (fun c_6 => ?_) (fun c_6 => ?_)
  · skip
    have c_6 : ¬ (pCell (nI x) (nI y)) := gb_eq0.mp c_6
    exact absurd (ok_cell hx9 hy9) c_6
  · skip
    have c_6 : pCell (nI x) (nI y) := gb_ne0.mp c_6
    refine lv_iconst (v := nI 0) hx hb dX4_colour_9 (by decide) ?_
    refine lv_goto (tgt := 14) hx hb dX4_colour_10 (by decide) ?_
    refine gc_Wi (wn := fun u => [(q 0, eMod (nI 0) q U), (q 1, eI cy 192 sc)]) (wr := [(q 1, eI cy 192 sc)]) (va_runV (As := [.int (nI 0)]) (rest := []) ⟨hx, hb, hml, hown, hts⟩ (c_X4_goesWell l D cy H.size q T U 0 (by decide)) (cwV 1 hts gX4_colour_X4_goesWell rfl rfl rfl (by decide +kernel) ⟨Nat.le_of_ble_eq_true rfl, Nat.le_of_ble_eq_true rfl⟩) (gpVI (ci := 4) (q0 := 0) hG (hP.sub [0] rfl) (hD.sub [0] (by decide) rfl) rfl rfl) rfl rfl hl.1 rfl (lv_room (Nat.le_of_ble_eq_true rfl)) dX4_colour_14 ⟨Nat.zero_le _, Nat.zero_le _⟩) hP hD hS hA [0] [1] [1, 0] rfl rfl (by decide) (by decide) (fun _ => rfl) (by decide) (fun r_14 _u H locs hw_14 hP hD hS => ?_)
    have hP : va_P D vwCl [(q 0, eMod (nI 0) q U), (q 1, eI cy 192 sc)] H := hP
    have hD : va_D AA [(q 0, eMod (nI 0) q U), (q 1, eI cy 192 sc)] := hD
    obtain ⟨hr_14, hw_14⟩ := hw_14
    refine g_ti (y := gb (0 = 0)) hr_14 ?_
    have hw_14 : True := hw_14
    refine lv_if_eq (tgt := 34) hx hb dX4_colour_17 (by decide) (fun c_17 => ?_) (fun c_17 => ?_)
    · skip
      have c_17 : ¬ (0 = 0) := gb_eq0.mp c_17
      exact absurd (by decide) c_17
    · skip
      have c_17 : 0 = 0 := gb_ne0.mp c_17
      refine lv_aload_n hx hb dX4_colour_20 rfl (lv_at hl 0 rfl) ?_
      refine va_get (D := D) (ci := 4) (v := .ref (q 1)) (C := RX4) (T := TX4) (N := 17) hx hb hts iX4_colour_X4 hown hG.1 hP 0 rfl rfl 1 (by decide) (hts (.fieldLink RX4 7 "DirtyTilesModel" "screen" "[I") (by decide +kernel)) (fun _ h9 => h9) rfl dX4_colour_21 ?_
      refine lv_bipush (v := nI 16) hx hb dX4_colour_24 (by decide) ?_
      refine lv_iload_n hx hb dX4_colour_26 rfl (lv_at hl 2 rfl) ?_
      refine lv_imul hx hb dX4_colour_27 ?_
      refine g_ti (y := nI (16 * y)) (pk_mul _ _) ?_
      refine lv_iload_n hx hb dX4_colour_28 rfl (lv_at hl 1 rfl) ?_
      refine lv_iadd hx hb dX4_colour_29 ?_
      refine g_ti (y := nI ((16 * y) + x)) (nI_add _ _) ?_
      refine g_iald hx hb hG hP 1 0 rfl rfl (k := (16 * y) + x) (by omega) (by decide) dX4_colour_30 ?_
      refine g_ti (y := nI (at2 S x y)) (hs x y hx9 hy9) ?_
      refine lv_goto (tgt := 35) hx hb dX4_colour_31 (by decide) ?_
      exact hret _ _ _ _ _ () dX4_colour_35 (⟨rfl, trivial⟩) (hP.sub [0, 1] rfl) (hD.sub [0, 1] (by decide) rfl) hS
set_option maxHeartbeats 4000000 in
set_option maxRecDepth 100000 in
theorem c_X4_colours (l : Launch) (D : va_G) (cy : Nat → ClassId) (sz : Nat) (q : Nat → Nat) (T U : Int32) (sc tl9 : Nat → Int32) (S : Nat → Int64) (t : Nat) (hs : hS S sc) (ht9 : t < 12) : Met l yX4_colours wsX4_colours ({ frames := 2, cells := 0, slots := 0, locals := 43 } : Room) (va_Pc [.ref (q 0), .int (nI t)] (gI D (gT cy) [(q 0, eMod T q U), (q 1, eI cy 192 sc), (q 16, eI cy 16 tl9)] sz)) (va_Qi (fun (r9 : Int32) (u : (Nat → Int32)) => r9 = nI (nCol (S t)) ∧ ((True))) (gO D (fun u : (Nat → Int32) => [(q 0, eMod (nI 0) q U), (q 1, eI cy 192 sc), (q 16, eI cy 16 u)]) (va_A [(q 0, eMod T q U), (q 1, eI cy 192 sc), (q 16, eI cy 16 tl9)] sz)) (va_A [(q 0, eMod T q U), (q 1, eI cy 192 sc), (q 16, eI cy 16 tl9)] sz)) 0 0 (va_A [(q 0, eMod T q U), (q 1, eI cy 192 sc), (q 16, eI cy 16 tl9)] sz) := by
  refine gW_i (cc := cX4_colours) (maxL := 2) (ty := .int) (by decide) rfl (Nat.le_of_ble_eq_true rfl) (fun v u hv => by rfl) ?_
  intro pp ee ss mm bw mt cd QQ AA ls hfx hP hG hD hA hret hl
  have hS : va_S AA ss.heap ss.heap [] := va_S.rf
  obtain ⟨H, eH⟩ : ∃ H, H = ss.heap := ⟨_, rfl⟩
  obtain ⟨locs, eL⟩ : ∃ L : List Loc, L = [] := ⟨_, rfl⟩
  have hP : va_P D vwCl [(q 0, eMod T q U), (q 1, eI cy 192 sc), (q 16, eI cy 16 tl9)] H := by rw [eH]; exact hP
  have hS : va_S AA ss.heap H locs := by rw [eH, eL]; exact hS
  have goal : ∀ X Y, X = H → Y = locs → W pp l ee ({ frames := 2, cells := 0, slots := 0, locals := 43 } : Room) ss mm ([.ref (q 0), .int (nI t)] : List Value).toArray bw mt cd X Y 0 0 QQ (F0 mm 0 ls []) → W pp l ee ({ frames := 2, cells := 0, slots := 0, locals := 43 } : Room) ss mm ([.ref (q 0), .int (nI t)] : List Value).toArray bw mt cd ss.heap [] 0 0 QQ (F0 mm 0 ls []) := fun X Y hX hY h => by rw [hX, hY, eH, eL] at h; exact h
  refine goal H locs rfl rfl ?_
  clear goal eH eL
  obtain ⟨hx, hb, hml, hown, hts, hlocks⟩ := hfx
  have hown : ss.vm.findClass RX4 = some mm.cls := hown
  have hl : lv_has ls 2 [(0, .ref (q 0)), (1, .int (nI t))] := hl
  refine lv_aload_n hx hb dX4_colours_0 rfl (lv_at hl 0 rfl) ?_
  refine lv_iload_n hx hb dX4_colours_1 rfl (lv_at hl 1 rfl) ?_
  refine gc_Si (va_runS (As := [.int (nI t)]) (rest := [.ref (q 0)]) ⟨hx, hb, hml, hown, hts⟩ (c_X4_isTile l D cy (nI t)) (va_cwS 1 hts gX4_colours_X4_isTile rfl rfl rfl (by decide +kernel) ⟨Nat.le_of_ble_eq_true rfl, Nat.le_of_ble_eq_true rfl⟩) (gpSR hG (hP.sub [] rfl)) rfl rfl hl.1 rfl (lv_room (Nat.le_of_ble_eq_true rfl)) dX4_colours_2 ⟨Nat.zero_le _, Nat.zero_le _⟩) ?_
  refine lv_if_eq (tgt := 12) hx hb dX4_colours_5 (by decide) (fun c_5 => ?_) (fun c_5 => ?_)
  · skip
    have c_5 : ¬ (pIn (nI t) 0 11) := gb_eq0.mp c_5
    exact absurd (ok_idx (n := 11) (by omega) (by decide)) c_5
  · skip
    have c_5 : pIn (nI t) 0 11 := gb_ne0.mp c_5
    refine lv_iconst (v := nI 0) hx hb dX4_colours_8 (by decide) ?_
    refine lv_goto (tgt := 13) hx hb dX4_colours_9 (by decide) ?_
    refine gc_Wi (wn := fun u => [(q 0, eMod (nI 0) q U), (q 1, eI cy 192 sc), (q 16, eI cy 16 tl9)]) (wr := [(q 1, eI cy 192 sc), (q 16, eI cy 16 tl9)]) (va_runV (As := [.int (nI 0)]) (rest := []) ⟨hx, hb, hml, hown, hts⟩ (c_X4_goesWell l D cy H.size q T U 0 (by decide)) (cwV 1 hts gX4_colours_X4_goesWell rfl rfl rfl (by decide +kernel) ⟨Nat.le_of_ble_eq_true rfl, Nat.le_of_ble_eq_true rfl⟩) (gpVI (ci := 4) (q0 := 0) hG (hP.sub [0] rfl) (hD.sub [0] (by decide) rfl) rfl rfl) rfl rfl hl.1 rfl (lv_room (Nat.le_of_ble_eq_true rfl)) dX4_colours_13 ⟨Nat.zero_le _, Nat.zero_le _⟩) hP hD hS hA [0] [1, 2] [2, 0, 1] rfl rfl (by decide) (by decide) (fun _ => rfl) (by decide) (fun r_13 _u H locs hw_13 hP hD hS => ?_)
    have hP : va_P D vwCl [(q 0, eMod (nI 0) q U), (q 1, eI cy 192 sc), (q 16, eI cy 16 tl9)] H := hP
    have hD : va_D AA [(q 0, eMod (nI 0) q U), (q 1, eI cy 192 sc), (q 16, eI cy 16 tl9)] := hD
    obtain ⟨hr_13, hw_13⟩ := hw_13
    refine g_ti (y := gb (0 = 0)) hr_13 ?_
    have hw_13 : True := hw_13
    refine lv_if_ne (tgt := 21) hx hb dX4_colours_16 (by decide) (fun c_16 => ?_) (fun c_16 => ?_)
    · skip
      have c_16 : 0 = 0 := gb_ne0.mp c_16
      refine lv_aload_n hx hb dX4_colours_21 rfl (lv_at hl 0 rfl) ?_
      refine lv_iload_n hx hb dX4_colours_22 rfl (lv_at hl 1 rfl) ?_
      refine gc_Wv (wn := fun u => [(q 0, eMod (nI 0) q U), (q 1, eI cy 192 sc), (q 16, eI cy 16 u)]) (wr := []) (va_runV (As := [.int (nI t)]) (rest := []) ⟨hx, hb, hml, hown, hts⟩ (c_X4_look l D cy H.size q (nI 0) U sc tl9 S t ht9 hs) (cwV 1 hts gX4_colours_X4_look rfl rfl rfl (by decide +kernel) ⟨Nat.le_of_ble_eq_true rfl, Nat.le_of_ble_eq_true rfl⟩) (gpVI (ci := 4) (q0 := 0) hG (hP.sub [0, 1, 2] rfl) (hD.sub [0, 1, 2] (by decide) rfl) rfl rfl) rfl rfl hl.1 rfl (lv_room (Nat.le_of_ble_eq_true rfl)) dX4_colours_23 ⟨Nat.zero_le _, Nat.zero_le _⟩) hP hD hS hA [0, 1, 2] [] [0, 1, 2] rfl rfl (by decide) (by decide) (fun _ => rfl) (by decide) (fun tl3 H locs hw_23 hP hD hS => ?_)
      have hP : va_P D vwCl [(q 0, eMod (nI 0) q U), (q 1, eI cy 192 sc), (q 16, eI cy 16 tl3)] H := hP
      have hD : va_D AA [(q 0, eMod (nI 0) q U), (q 1, eI cy 192 sc), (q 16, eI cy 16 tl3)] := hD
      have hw_23 : hT (S t) tl3 := hw_23
      refine lv_aload_n hx hb dX4_colours_26 rfl (lv_at hl 0 rfl) ?_
      refine gc_Si (va_runV (As := []) (rest := []) ⟨hx, hb, hml, hown, hts⟩ (c_X4_countColours l D cy q (nI 0) U tl3 (S t) hw_23) (cwV 0 hts gX4_colours_X4_countColours rfl rfl rfl (by decide +kernel) ⟨Nat.le_of_ble_eq_true rfl, Nat.le_of_ble_eq_true rfl⟩) (gpVR (ci := 4) (q0 := 0) hG (hP.sub [0, 2] rfl) rfl rfl) rfl rfl hl.1 rfl (lv_room (Nat.le_of_ble_eq_true rfl)) dX4_colours_27 ⟨Nat.zero_le _, Nat.zero_le _⟩) ?_
      exact hret _ _ _ _ _ tl3 dX4_colours_30 (⟨rfl, trivial⟩) (hP.sub [0, 1, 2] rfl) (hD.sub [0, 1, 2] (by decide) rfl) hS
    · skip
      have c_16 : ¬ (0 = 0) := gb_eq0.mp c_16
      exact absurd (by decide) c_16
set_option maxHeartbeats 4000000 in
set_option maxRecDepth 100000 in
theorem c_X4_runs (l : Launch) (D : va_G) (cy : Nat → ClassId) (sz : Nat) (q : Nat → Nat) (T U : Int32) (sc tl9 : Nat → Int32) (S : Nat → Int64) (t : Nat) (hs : hS S sc) (ht9 : t < 12) : Met l yX4_runs wsX4_runs ({ frames := 2, cells := 0, slots := 0, locals := 43 } : Room) (va_Pc [.ref (q 0), .int (nI t)] (gI D (gT cy) [(q 0, eMod T q U), (q 1, eI cy 192 sc), (q 16, eI cy 16 tl9)] sz)) (va_Qi (fun (r9 : Int32) (u : (Nat → Int32)) => r9 = nI (nRun (S t)) ∧ ((True))) (gO D (fun u : (Nat → Int32) => [(q 0, eMod (nI 0) q U), (q 1, eI cy 192 sc), (q 16, eI cy 16 u)]) (va_A [(q 0, eMod T q U), (q 1, eI cy 192 sc), (q 16, eI cy 16 tl9)] sz)) (va_A [(q 0, eMod T q U), (q 1, eI cy 192 sc), (q 16, eI cy 16 tl9)] sz)) 0 0 (va_A [(q 0, eMod T q U), (q 1, eI cy 192 sc), (q 16, eI cy 16 tl9)] sz) := by
  refine gW_i (cc := cX4_runs) (maxL := 2) (ty := .int) (by decide) rfl (Nat.le_of_ble_eq_true rfl) (fun v u hv => by rfl) ?_
  intro pp ee ss mm bw mt cd QQ AA ls hfx hP hG hD hA hret hl
  have hS : va_S AA ss.heap ss.heap [] := va_S.rf
  obtain ⟨H, eH⟩ : ∃ H, H = ss.heap := ⟨_, rfl⟩
  obtain ⟨locs, eL⟩ : ∃ L : List Loc, L = [] := ⟨_, rfl⟩
  have hP : va_P D vwCl [(q 0, eMod T q U), (q 1, eI cy 192 sc), (q 16, eI cy 16 tl9)] H := by rw [eH]; exact hP
  have hS : va_S AA ss.heap H locs := by rw [eH, eL]; exact hS
  have goal : ∀ X Y, X = H → Y = locs → W pp l ee ({ frames := 2, cells := 0, slots := 0, locals := 43 } : Room) ss mm ([.ref (q 0), .int (nI t)] : List Value).toArray bw mt cd X Y 0 0 QQ (F0 mm 0 ls []) → W pp l ee ({ frames := 2, cells := 0, slots := 0, locals := 43 } : Room) ss mm ([.ref (q 0), .int (nI t)] : List Value).toArray bw mt cd ss.heap [] 0 0 QQ (F0 mm 0 ls []) := fun X Y hX hY h => by rw [hX, hY, eH, eL] at h; exact h
  refine goal H locs rfl rfl ?_
  clear goal eH eL
  obtain ⟨hx, hb, hml, hown, hts, hlocks⟩ := hfx
  have hown : ss.vm.findClass RX4 = some mm.cls := hown
  have hl : lv_has ls 2 [(0, .ref (q 0)), (1, .int (nI t))] := hl
  refine lv_aload_n hx hb dX4_runs_0 rfl (lv_at hl 0 rfl) ?_
  refine lv_iload_n hx hb dX4_runs_1 rfl (lv_at hl 1 rfl) ?_
  refine gc_Si (va_runS (As := [.int (nI t)]) (rest := [.ref (q 0)]) ⟨hx, hb, hml, hown, hts⟩ (c_X4_isTile l D cy (nI t)) (va_cwS 1 hts gX4_runs_X4_isTile rfl rfl rfl (by decide +kernel) ⟨Nat.le_of_ble_eq_true rfl, Nat.le_of_ble_eq_true rfl⟩) (gpSR hG (hP.sub [] rfl)) rfl rfl hl.1 rfl (lv_room (Nat.le_of_ble_eq_true rfl)) dX4_runs_2 ⟨Nat.zero_le _, Nat.zero_le _⟩) ?_
  refine lv_if_eq (tgt := 12) hx hb dX4_runs_5 (by decide) (fun c_5 => ?_) (fun c_5 => ?_)
  · skip
    have c_5 : ¬ (pIn (nI t) 0 11) := gb_eq0.mp c_5
    exact absurd (ok_idx (n := 11) (by omega) (by decide)) c_5
  · skip
    have c_5 : pIn (nI t) 0 11 := gb_ne0.mp c_5
    refine lv_iconst (v := nI 0) hx hb dX4_runs_8 (by decide) ?_
    refine lv_goto (tgt := 13) hx hb dX4_runs_9 (by decide) ?_
    refine gc_Wi (wn := fun u => [(q 0, eMod (nI 0) q U), (q 1, eI cy 192 sc), (q 16, eI cy 16 tl9)]) (wr := [(q 1, eI cy 192 sc), (q 16, eI cy 16 tl9)]) (va_runV (As := [.int (nI 0)]) (rest := []) ⟨hx, hb, hml, hown, hts⟩ (c_X4_goesWell l D cy H.size q T U 0 (by decide)) (cwV 1 hts gX4_runs_X4_goesWell rfl rfl rfl (by decide +kernel) ⟨Nat.le_of_ble_eq_true rfl, Nat.le_of_ble_eq_true rfl⟩) (gpVI (ci := 4) (q0 := 0) hG (hP.sub [0] rfl) (hD.sub [0] (by decide) rfl) rfl rfl) rfl rfl hl.1 rfl (lv_room (Nat.le_of_ble_eq_true rfl)) dX4_runs_13 ⟨Nat.zero_le _, Nat.zero_le _⟩) hP hD hS hA [0] [1, 2] [2, 0, 1] rfl rfl (by decide) (by decide) (fun _ => rfl) (by decide) (fun r_13 _u H locs hw_13 hP hD hS => ?_)
    have hP : va_P D vwCl [(q 0, eMod (nI 0) q U), (q 1, eI cy 192 sc), (q 16, eI cy 16 tl9)] H := hP
    have hD : va_D AA [(q 0, eMod (nI 0) q U), (q 1, eI cy 192 sc), (q 16, eI cy 16 tl9)] := hD
    obtain ⟨hr_13, hw_13⟩ := hw_13
    refine g_ti (y := gb (0 = 0)) hr_13 ?_
    have hw_13 : True := hw_13
    refine lv_if_ne (tgt := 21) hx hb dX4_runs_16 (by decide) (fun c_16 => ?_) (fun c_16 => ?_)
    · skip
      have c_16 : 0 = 0 := gb_ne0.mp c_16
      refine lv_aload_n hx hb dX4_runs_21 rfl (lv_at hl 0 rfl) ?_
      refine lv_iload_n hx hb dX4_runs_22 rfl (lv_at hl 1 rfl) ?_
      refine gc_Wv (wn := fun u => [(q 0, eMod (nI 0) q U), (q 1, eI cy 192 sc), (q 16, eI cy 16 u)]) (wr := []) (va_runV (As := [.int (nI t)]) (rest := []) ⟨hx, hb, hml, hown, hts⟩ (c_X4_look l D cy H.size q (nI 0) U sc tl9 S t ht9 hs) (cwV 1 hts gX4_runs_X4_look rfl rfl rfl (by decide +kernel) ⟨Nat.le_of_ble_eq_true rfl, Nat.le_of_ble_eq_true rfl⟩) (gpVI (ci := 4) (q0 := 0) hG (hP.sub [0, 1, 2] rfl) (hD.sub [0, 1, 2] (by decide) rfl) rfl rfl) rfl rfl hl.1 rfl (lv_room (Nat.le_of_ble_eq_true rfl)) dX4_runs_23 ⟨Nat.zero_le _, Nat.zero_le _⟩) hP hD hS hA [0, 1, 2] [] [0, 1, 2] rfl rfl (by decide) (by decide) (fun _ => rfl) (by decide) (fun tl3 H locs hw_23 hP hD hS => ?_)
      have hP : va_P D vwCl [(q 0, eMod (nI 0) q U), (q 1, eI cy 192 sc), (q 16, eI cy 16 tl3)] H := hP
      have hD : va_D AA [(q 0, eMod (nI 0) q U), (q 1, eI cy 192 sc), (q 16, eI cy 16 tl3)] := hD
      have hw_23 : hT (S t) tl3 := hw_23
      refine lv_aload_n hx hb dX4_runs_26 rfl (lv_at hl 0 rfl) ?_
      refine gc_Si (va_runV (As := []) (rest := []) ⟨hx, hb, hml, hown, hts⟩ (c_X4_countRuns l D cy q (nI 0) U tl3 (S t) hw_23) (cwV 0 hts gX4_runs_X4_countRuns rfl rfl rfl (by decide +kernel) ⟨Nat.le_of_ble_eq_true rfl, Nat.le_of_ble_eq_true rfl⟩) (gpVR (ci := 4) (q0 := 0) hG (hP.sub [0, 2] rfl) rfl rfl) rfl rfl hl.1 rfl (lv_room (Nat.le_of_ble_eq_true rfl)) dX4_runs_27 ⟨Nat.zero_le _, Nat.zero_le _⟩) ?_
      exact hret _ _ _ _ _ tl3 dX4_runs_30 (⟨rfl, trivial⟩) (hP.sub [0, 1, 2] rfl) (hD.sub [0, 1, 2] (by decide) rfl) hS
    · skip
      have c_16 : ¬ (0 = 0) := gb_eq0.mp c_16
      exact absurd (by decide) c_16
set_option maxHeartbeats 4000000 in
set_option maxRecDepth 100000 in
theorem c_X4_way (l : Launch) (D : va_G) (cy : Nat → ClassId) (sz : Nat) (q : Nat → Nat) (T U : Int32) (is sc ca zs tl9 : Nat → Int32) (S : Nat → Int64) (C : List Int64) (i t : Nat) (J : Prop) (hi : i < 2) (hj : is i = gb (J)) (hJ : J) (ht9 : t < 12) (hs : hS S sc) (hca : hCo C ca i) (hsz : zs i = nI C.length) (hC : C.length ≤ 6) : Met l yX4_way wsX4_way ({ frames := 2, cells := 0, slots := 0, locals := 47 } : Room) (va_Pc [.ref (q 0), .int (nI i), .int (nI t)] (gI D (gT cy) [(q 0, eMod T q U), (q 1, eI cy 192 sc), (q 3, eZ cy 2 is), (q 5, eI cy 224 ca), (q 6, eI cy 2 zs), (q 16, eI cy 16 tl9)] sz)) (va_Qi (fun (r9 : Int32) (u : (Nat → Int32)) => r9 = nI (wayO C (S t)) ∧ ((True))) (gO D (fun u : (Nat → Int32) => [(q 0, eMod (nI 0) q U), (q 1, eI cy 192 sc), (q 3, eZ cy 2 is), (q 5, eI cy 224 ca), (q 6, eI cy 2 zs), (q 16, eI cy 16 u)]) (va_A [(q 0, eMod T q U), (q 1, eI cy 192 sc), (q 3, eZ cy 2 is), (q 5, eI cy 224 ca), (q 6, eI cy 2 zs), (q 16, eI cy 16 tl9)] sz)) (va_A [(q 0, eMod T q U), (q 1, eI cy 192 sc), (q 3, eZ cy 2 is), (q 5, eI cy 224 ca), (q 6, eI cy 2 zs), (q 16, eI cy 16 tl9)] sz)) 0 0 (va_A [(q 0, eMod T q U), (q 1, eI cy 192 sc), (q 3, eZ cy 2 is), (q 5, eI cy 224 ca), (q 6, eI cy 2 zs), (q 16, eI cy 16 tl9)] sz) := by
  refine gW_i (cc := cX4_way) (maxL := 4) (ty := .int) (by decide) rfl (Nat.le_of_ble_eq_true rfl) (fun v u hv => by rfl) ?_
  intro pp ee ss mm bw mt cd QQ AA ls hfx hP hG hD hA hret hl
  have hS : va_S AA ss.heap ss.heap [] := va_S.rf
  obtain ⟨H, eH⟩ : ∃ H, H = ss.heap := ⟨_, rfl⟩
  obtain ⟨locs, eL⟩ : ∃ L : List Loc, L = [] := ⟨_, rfl⟩
  have hP : va_P D vwCl [(q 0, eMod T q U), (q 1, eI cy 192 sc), (q 3, eZ cy 2 is), (q 5, eI cy 224 ca), (q 6, eI cy 2 zs), (q 16, eI cy 16 tl9)] H := by rw [eH]; exact hP
  have hS : va_S AA ss.heap H locs := by rw [eH, eL]; exact hS
  have goal : ∀ X Y, X = H → Y = locs → W pp l ee ({ frames := 2, cells := 0, slots := 0, locals := 47 } : Room) ss mm ([.ref (q 0), .int (nI i), .int (nI t)] : List Value).toArray bw mt cd X Y 0 0 QQ (F0 mm 0 ls []) → W pp l ee ({ frames := 2, cells := 0, slots := 0, locals := 47 } : Room) ss mm ([.ref (q 0), .int (nI i), .int (nI t)] : List Value).toArray bw mt cd ss.heap [] 0 0 QQ (F0 mm 0 ls []) := fun X Y hX hY h => by rw [hX, hY, eH, eL] at h; exact h
  refine goal H locs rfl rfl ?_
  clear goal eH eL
  obtain ⟨hx, hb, hml, hown, hts, hlocks⟩ := hfx
  have hown : ss.vm.findClass RX4 = some mm.cls := hown
  have hl : lv_has ls 4 [(0, .ref (q 0)), (1, .int (nI i)), (2, .int (nI t))] := hl
  refine lv_iload_n hx hb dX4_way_0 rfl (lv_at hl 1 rfl) ?_
  refine gc_Si (va_runS (As := [.int (nI i)]) (rest := []) ⟨hx, hb, hml, hown, hts⟩ (c_X4_isClient l D cy (nI i)) (va_cwS 1 hts gX4_way_X4_isClient rfl rfl rfl (by decide +kernel) ⟨Nat.le_of_ble_eq_true rfl, Nat.le_of_ble_eq_true rfl⟩) (gpSR hG (hP.sub [] rfl)) rfl rfl hl.1 rfl (lv_room (Nat.le_of_ble_eq_true rfl)) dX4_way_1 ⟨Nat.zero_le _, Nat.zero_le _⟩) ?_
  refine lv_if_eq (tgt := 18) hx hb dX4_way_4 (by decide) (fun c_4 => ?_) (fun c_4 => ?_)
  · skip
    have c_4 : ¬ (pIn (nI i) 0 1) := gb_eq0.mp c_4
    exact absurd (ok_idx (n := 1) (by omega) (by decide)) c_4
  · skip
    have c_4 : pIn (nI i) 0 1 := gb_ne0.mp c_4
    refine lv_iload_n hx hb dX4_way_7 rfl (lv_at hl 2 rfl) ?_
    refine gc_Si (va_runS (As := [.int (nI t)]) (rest := []) ⟨hx, hb, hml, hown, hts⟩ (c_X4_isTile l D cy (nI t)) (va_cwS 1 hts gX4_way_X4_isTile rfl rfl rfl (by decide +kernel) ⟨Nat.le_of_ble_eq_true rfl, Nat.le_of_ble_eq_true rfl⟩) (gpSR hG (hP.sub [] rfl)) rfl rfl hl.1 rfl (lv_room (Nat.le_of_ble_eq_true rfl)) dX4_way_8 ⟨Nat.zero_le _, Nat.zero_le _⟩) ?_
    refine lv_if_eq (tgt := 18) hx hb dX4_way_11 (by decide) (fun c_11 => ?_) (fun c_11 => ?_)
    · skip
      have c_11 : ¬ (pIn (nI t) 0 11) := gb_eq0.mp c_11
      exact absurd (ok_idx (n := 11) (by omega) (by decide)) c_11
    · skip
      have c_11 : pIn (nI t) 0 11 := gb_ne0.mp c_11
      refine lv_iconst (v := nI 1) hx hb dX4_way_14 (by decide) ?_
      refine lv_goto (tgt := 19) hx hb dX4_way_15 (by decide) ?_
      refine lv_istore_n (lv' := [(3, .int (nI 1)), (0, .ref (q 0)), (1, .int (nI i)), (2, .int (nI t))]) hx hb dX4_way_19 rfl hl (by decide) rfl (fun ls hl => ?_)
      refine lv_aload_n hx hb dX4_way_20 rfl (lv_at hl 1 rfl) ?_
      refine lv_iload_n hx hb dX4_way_21 rfl (lv_at hl 0 rfl) ?_
      refine lv_if_ne (tgt := 29) hx hb dX4_way_22 (by decide) (fun c_22 => ?_) (fun c_22 => ?_)
      · skip
        have c_22 : ¬ 1 = 0 := fun z => c_22 ((nI_eq (a := 1) (b := 0) (by omega) (by omega)).mpr z)
        refine lv_aload_n hx hb dX4_way_29 rfl (lv_at hl 1 rfl) ?_
        refine va_get (D := D) (ci := 4) (v := .ref (q 3)) (C := RX4) (T := TX4) (N := 17) hx hb hts iX4_way_X4 hown hG.1 hP 0 rfl rfl 3 (by decide) (hts (.fieldLink RX4 16 "DirtyTilesModel" "isIn" "[Z") (by decide +kernel)) (fun _ h9 => h9) rfl dX4_way_30 ?_
        refine lv_iload_n hx hb dX4_way_33 rfl (lv_at hl 2 rfl) ?_
        refine g_zald hx hb hG hP 2 2 rfl rfl (k := i) (by omega) (by decide) dX4_way_34 ?_
        refine g_ti (y := gb (J)) (hj) ?_
        refine lv_if_eq (tgt := 42) hx hb dX4_way_35 (by decide) (fun c_35 => ?_) (fun c_35 => ?_)
        · skip
          have c_35 : ¬ (J) := gb_eq0.mp c_35
          exact absurd (hJ) c_35
        · skip
          have c_35 : J := gb_ne0.mp c_35
          refine lv_iconst (v := nI 0) hx hb dX4_way_38 (by decide) ?_
          refine lv_goto (tgt := 43) hx hb dX4_way_39 (by decide) ?_
          refine gc_Wi (wn := fun u => [(q 0, eMod (nI 0) q U), (q 1, eI cy 192 sc), (q 3, eZ cy 2 is), (q 5, eI cy 224 ca), (q 6, eI cy 2 zs), (q 16, eI cy 16 tl9)]) (wr := [(q 1, eI cy 192 sc), (q 3, eZ cy 2 is), (q 5, eI cy 224 ca), (q 6, eI cy 2 zs), (q 16, eI cy 16 tl9)]) (va_runV (As := [.int (nI 0)]) (rest := []) ⟨hx, hb, hml, hown, hts⟩ (c_X4_goesWell l D cy H.size q T U 0 (by decide)) (cwV 1 hts gX4_way_X4_goesWell rfl rfl rfl (by decide +kernel) ⟨Nat.le_of_ble_eq_true rfl, Nat.le_of_ble_eq_true rfl⟩) (gpVI (ci := 4) (q0 := 0) hG (hP.sub [0] rfl) (hD.sub [0] (by decide) rfl) rfl rfl) rfl rfl hl.1 rfl (lv_room (Nat.le_of_ble_eq_true rfl)) dX4_way_43 ⟨Nat.zero_le _, Nat.zero_le _⟩) hP hD hS hA [0] [1, 2, 3, 4, 5] [5, 0, 1, 2, 3, 4] rfl rfl (by decide) (by decide) (fun _ => rfl) (by decide) (fun r_43 _u H locs hw_43 hP hD hS => ?_)
          have hP : va_P D vwCl [(q 0, eMod (nI 0) q U), (q 1, eI cy 192 sc), (q 3, eZ cy 2 is), (q 5, eI cy 224 ca), (q 6, eI cy 2 zs), (q 16, eI cy 16 tl9)] H := hP
          have hD : va_D AA [(q 0, eMod (nI 0) q U), (q 1, eI cy 192 sc), (q 3, eZ cy 2 is), (q 5, eI cy 224 ca), (q 6, eI cy 2 zs), (q 16, eI cy 16 tl9)] := hD
          obtain ⟨hr_43, hw_43⟩ := hw_43
          refine g_ti (y := gb (0 = 0)) hr_43 ?_
          have hw_43 : True := hw_43
          refine lv_if_ne (tgt := 51) hx hb dX4_way_46 (by decide) (fun c_46 => ?_) (fun c_46 => ?_)
          · skip
            have c_46 : 0 = 0 := gb_ne0.mp c_46
            refine lv_aload_n hx hb dX4_way_51 rfl (lv_at hl 1 rfl) ?_
            refine lv_iload_n hx hb dX4_way_52 rfl (lv_at hl 3 rfl) ?_
            refine gc_Wv (wn := fun u => [(q 0, eMod (nI 0) q U), (q 1, eI cy 192 sc), (q 3, eZ cy 2 is), (q 5, eI cy 224 ca), (q 6, eI cy 2 zs), (q 16, eI cy 16 u)]) (wr := [(q 3, eZ cy 2 is), (q 5, eI cy 224 ca), (q 6, eI cy 2 zs)]) (va_runV (As := [.int (nI t)]) (rest := []) ⟨hx, hb, hml, hown, hts⟩ (c_X4_look l D cy H.size q (nI 0) U sc tl9 S t ht9 hs) (cwV 1 hts gX4_way_X4_look rfl rfl rfl (by decide +kernel) ⟨Nat.le_of_ble_eq_true rfl, Nat.le_of_ble_eq_true rfl⟩) (gpVI (ci := 4) (q0 := 0) hG (hP.sub [0, 1, 5] rfl) (hD.sub [0, 1, 5] (by decide) rfl) rfl rfl) rfl rfl hl.1 rfl (lv_room (Nat.le_of_ble_eq_true rfl)) dX4_way_53 ⟨Nat.zero_le _, Nat.zero_le _⟩) hP hD hS hA [0, 1, 5] [2, 3, 4] [3, 4, 0, 1, 2, 5] rfl rfl (by decide) (by decide) (fun _ => rfl) (by decide) (fun tl3 H locs hw_53 hP hD hS => ?_)
            have hP : va_P D vwCl [(q 0, eMod (nI 0) q U), (q 1, eI cy 192 sc), (q 3, eZ cy 2 is), (q 5, eI cy 224 ca), (q 6, eI cy 2 zs), (q 16, eI cy 16 tl3)] H := hP
            have hD : va_D AA [(q 0, eMod (nI 0) q U), (q 1, eI cy 192 sc), (q 3, eZ cy 2 is), (q 5, eI cy 224 ca), (q 6, eI cy 2 zs), (q 16, eI cy 16 tl3)] := hD
            have hw_53 : hT (S t) tl3 := hw_53
            refine lv_aload_n hx hb dX4_way_56 rfl (lv_at hl 1 rfl) ?_
            refine lv_iload_n hx hb dX4_way_57 rfl (lv_at hl 2 rfl) ?_
            refine gc_Si (va_runV (As := [.int (nI i)]) (rest := []) ⟨hx, hb, hml, hown, hts⟩ (c_X4_wayOf l D cy q (nI 0) U ca zs tl3 C (S t) i hi hca hsz hC hw_53) (cwV 1 hts gX4_way_X4_wayOf rfl rfl rfl (by decide +kernel) ⟨Nat.le_of_ble_eq_true rfl, Nat.le_of_ble_eq_true rfl⟩) (gpVR (ci := 4) (q0 := 0) hG (hP.sub [0, 3, 4, 5] rfl) rfl rfl) rfl rfl hl.1 rfl (lv_room (Nat.le_of_ble_eq_true rfl)) dX4_way_58 ⟨Nat.zero_le _, Nat.zero_le _⟩) ?_
            exact hret _ _ _ _ _ tl3 dX4_way_61 (⟨rfl, trivial⟩) (hP.sub [0, 1, 2, 3, 4, 5] rfl) (hD.sub [0, 1, 2, 3, 4, 5] (by decide) rfl) hS
          · skip
            have c_46 : ¬ (0 = 0) := gb_eq0.mp c_46
            exact absurd (by decide) c_46
      · skip
        have c_22 : 1 = 0 := (nI_eq (a := 1) (b := 0) (by omega) (by omega)).mp c_22
        exact absurd c_22 (by decide)
theorem iX4_written_X4 : ∀ w ∈ wsX40, w ∈ wsX4_written := by decide +kernel
set_option maxHeartbeats 4000000 in
set_option maxRecDepth 100000 in
theorem c_X4_written (l : Launch) (D : va_G) (cy : Nat → ClassId) (sz : Nat) (q : Nat → Nat) (T U : Int32) (fw : Nat → Int32) (w : Nat) (hw : w < 5) : Met l yX4_written wsX4_written ({ frames := 1, cells := 0, slots := 0, locals := 22 } : Room) (va_Pc [.ref (q 0), .int (nI w)] (gI D (gT cy) [(q 0, eMod T q U), (q 14, eI cy 5 fw)] sz)) (va_Qi (fun (r9 : Int32) (u : Unit) => r9 = fw w ∧ ((True))) (gO D (fun u : Unit => [(q 0, eMod (nI 0) q U), (q 14, eI cy 5 fw)]) (va_A [(q 0, eMod T q U), (q 14, eI cy 5 fw)] sz)) (va_A [(q 0, eMod T q U), (q 14, eI cy 5 fw)] sz)) 0 0 (va_A [(q 0, eMod T q U), (q 14, eI cy 5 fw)] sz) := by
  refine gW_i (cc := cX4_written) (maxL := 2) (ty := .int) (by decide) rfl (Nat.le_of_ble_eq_true rfl) (fun v u hv => by rfl) ?_
  intro pp ee ss mm bw mt cd QQ AA ls hfx hP hG hD hA hret hl
  have hS : va_S AA ss.heap ss.heap [] := va_S.rf
  obtain ⟨H, eH⟩ : ∃ H, H = ss.heap := ⟨_, rfl⟩
  obtain ⟨locs, eL⟩ : ∃ L : List Loc, L = [] := ⟨_, rfl⟩
  have hP : va_P D vwCl [(q 0, eMod T q U), (q 14, eI cy 5 fw)] H := by rw [eH]; exact hP
  have hS : va_S AA ss.heap H locs := by rw [eH, eL]; exact hS
  have goal : ∀ X Y, X = H → Y = locs → W pp l ee ({ frames := 1, cells := 0, slots := 0, locals := 22 } : Room) ss mm ([.ref (q 0), .int (nI w)] : List Value).toArray bw mt cd X Y 0 0 QQ (F0 mm 0 ls []) → W pp l ee ({ frames := 1, cells := 0, slots := 0, locals := 22 } : Room) ss mm ([.ref (q 0), .int (nI w)] : List Value).toArray bw mt cd ss.heap [] 0 0 QQ (F0 mm 0 ls []) := fun X Y hX hY h => by rw [hX, hY, eH, eL] at h; exact h
  refine goal H locs rfl rfl ?_
  clear goal eH eL
  obtain ⟨hx, hb, hml, hown, hts, hlocks⟩ := hfx
  have hown : ss.vm.findClass RX4 = some mm.cls := hown
  have hl : lv_has ls 2 [(0, .ref (q 0)), (1, .int (nI w))] := hl
  refine lv_aload_n hx hb dX4_written_0 rfl (lv_at hl 0 rfl) ?_
  refine lv_iload_n hx hb dX4_written_1 rfl (lv_at hl 1 rfl) ?_
  refine lv_iconst (v := nI 0) hx hb dX4_written_2 (by decide) ?_
  refine lv_iconst (v := nI 4) hx hb dX4_written_3 (by decide) ?_
  refine gc_Si (va_runS (As := [.int (nI w), .int (nI 0), .int (nI 4)]) (rest := [.ref (q 0)]) ⟨hx, hb, hml, hown, hts⟩ (c_X4_in l D cy (nI w) (nI 0) (nI 4)) (va_cwS 3 hts gX4_written_X4_in rfl rfl rfl (by decide +kernel) ⟨Nat.le_of_ble_eq_true rfl, Nat.le_of_ble_eq_true rfl⟩) (gpSR hG (hP.sub [] rfl)) rfl rfl hl.1 rfl (lv_room (Nat.le_of_ble_eq_true rfl)) dX4_written_4 ⟨Nat.zero_le _, Nat.zero_le _⟩) ?_
  refine g_ti (y := gb (pIn (nI w) 0 4)) ((congrArg (fun z => gb (pIn (nI w) z (nI 4 : Int32).toInt)) (by decide : (nI 0 : Int32).toInt = 0)).trans (congrArg (fun z => gb (pIn (nI w) 0 z)) (by decide : (nI 4 : Int32).toInt = 4))) ?_
  refine lv_if_eq (tgt := 14) hx hb dX4_written_7 (by decide) (fun c_7 => ?_) (fun c_7 => ?_)
  · skip
    have c_7 : ¬ (pIn (nI w) 0 4) := gb_eq0.mp c_7
    exact absurd (ok_idx (n := 4) (by omega) (by decide)) c_7
  · skip
    have c_7 : pIn (nI w) 0 4 := gb_ne0.mp c_7
    refine lv_iconst (v := nI 0) hx hb dX4_written_10 (by decide) ?_
    refine lv_goto (tgt := 15) hx hb dX4_written_11 (by decide) ?_
    refine gc_Wi (wn := fun u => [(q 0, eMod (nI 0) q U), (q 14, eI cy 5 fw)]) (wr := [(q 14, eI cy 5 fw)]) (va_runV (As := [.int (nI 0)]) (rest := []) ⟨hx, hb, hml, hown, hts⟩ (c_X4_goesWell l D cy H.size q T U 0 (by decide)) (cwV 1 hts gX4_written_X4_goesWell rfl rfl rfl (by decide +kernel) ⟨Nat.le_of_ble_eq_true rfl, Nat.le_of_ble_eq_true rfl⟩) (gpVI (ci := 4) (q0 := 0) hG (hP.sub [0] rfl) (hD.sub [0] (by decide) rfl) rfl rfl) rfl rfl hl.1 rfl (lv_room (Nat.le_of_ble_eq_true rfl)) dX4_written_15 ⟨Nat.zero_le _, Nat.zero_le _⟩) hP hD hS hA [0] [1] [1, 0] rfl rfl (by decide) (by decide) (fun _ => rfl) (by decide) (fun r_15 _u H locs hw_15 hP hD hS => ?_)
    have hP : va_P D vwCl [(q 0, eMod (nI 0) q U), (q 14, eI cy 5 fw)] H := hP
    have hD : va_D AA [(q 0, eMod (nI 0) q U), (q 14, eI cy 5 fw)] := hD
    obtain ⟨hr_15, hw_15⟩ := hw_15
    refine g_ti (y := gb (0 = 0)) hr_15 ?_
    have hw_15 : True := hw_15
    refine lv_if_eq (tgt := 30) hx hb dX4_written_18 (by decide) (fun c_18 => ?_) (fun c_18 => ?_)
    · skip
      have c_18 : ¬ (0 = 0) := gb_eq0.mp c_18
      exact absurd (by decide) c_18
    · skip
      have c_18 : 0 = 0 := gb_ne0.mp c_18
      refine lv_aload_n hx hb dX4_written_21 rfl (lv_at hl 0 rfl) ?_
      refine va_get (D := D) (ci := 4) (v := .ref (q 14)) (C := RX4) (T := TX4) (N := 17) hx hb hts iX4_written_X4 hown hG.1 hP 0 rfl rfl 14 (by decide) (hts (.fieldLink RX4 50 "DirtyTilesModel" "written" "[I") (by decide +kernel)) (fun _ h9 => h9) rfl dX4_written_22 ?_
      refine lv_iload_n hx hb dX4_written_25 rfl (lv_at hl 1 rfl) ?_
      refine g_iald hx hb hG hP 1 0 rfl rfl (k := w) (by omega) (by decide) dX4_written_26 ?_
      refine lv_goto (tgt := 31) hx hb dX4_written_27 (by decide) ?_
      exact hret _ _ _ _ _ () dX4_written_31 (⟨rfl, trivial⟩) (hP.sub [0, 1] rfl) (hD.sub [0, 1] (by decide) rfl) hS
set_option maxHeartbeats 4000000 in
set_option maxRecDepth 100000 in
theorem c_X4_shown (l : Launch) (D : va_G) (cy : Nat → ClassId) (sz : Nat) (q : Nat → Nat) (T U : Int32) (is ss9 : Nat → Int32) (S : Nat → Int64) (i x y : Nat) (J : Prop) (hi : i < 2) (hj : is i = gb (J)) (hJ : J) (hs : hSo S ss9 i) (hx9 : x < 16) (hy9 : y < 12) : Met l yX4_shown wsX4_shown ({ frames := 2, cells := 0, slots := 0, locals := 43 } : Room) (va_Pc [.ref (q 0), .int (nI i), .int (nI x), .int (nI y)] (gI D (gT cy) [(q 0, eMod T q U), (q 3, eZ cy 2 is), (q 4, eI cy 384 ss9)] sz)) (va_Qi (fun (r9 : Int32) (u : Unit) => r9 = nI (at2 S x y) ∧ ((True))) (gO D (fun u : Unit => [(q 0, eMod (nI 0) q U), (q 3, eZ cy 2 is), (q 4, eI cy 384 ss9)]) (va_A [(q 0, eMod T q U), (q 3, eZ cy 2 is), (q 4, eI cy 384 ss9)] sz)) (va_A [(q 0, eMod T q U), (q 3, eZ cy 2 is), (q 4, eI cy 384 ss9)] sz)) 0 0 (va_A [(q 0, eMod T q U), (q 3, eZ cy 2 is), (q 4, eI cy 384 ss9)] sz) := by
  refine gW_i (cc := cX4_shown) (maxL := 5) (ty := .int) (by decide) rfl (Nat.le_of_ble_eq_true rfl) (fun v u hv => by rfl) ?_
  intro pp ee ss mm bw mt cd QQ AA ls hfx hP hG hD hA hret hl
  have hS : va_S AA ss.heap ss.heap [] := va_S.rf
  obtain ⟨H, eH⟩ : ∃ H, H = ss.heap := ⟨_, rfl⟩
  obtain ⟨locs, eL⟩ : ∃ L : List Loc, L = [] := ⟨_, rfl⟩
  have hP : va_P D vwCl [(q 0, eMod T q U), (q 3, eZ cy 2 is), (q 4, eI cy 384 ss9)] H := by rw [eH]; exact hP
  have hS : va_S AA ss.heap H locs := by rw [eH, eL]; exact hS
  have goal : ∀ X Y, X = H → Y = locs → W pp l ee ({ frames := 2, cells := 0, slots := 0, locals := 43 } : Room) ss mm ([.ref (q 0), .int (nI i), .int (nI x), .int (nI y)] : List Value).toArray bw mt cd X Y 0 0 QQ (F0 mm 0 ls []) → W pp l ee ({ frames := 2, cells := 0, slots := 0, locals := 43 } : Room) ss mm ([.ref (q 0), .int (nI i), .int (nI x), .int (nI y)] : List Value).toArray bw mt cd ss.heap [] 0 0 QQ (F0 mm 0 ls []) := fun X Y hX hY h => by rw [hX, hY, eH, eL] at h; exact h
  refine goal H locs rfl rfl ?_
  clear goal eH eL
  obtain ⟨hx, hb, hml, hown, hts, hlocks⟩ := hfx
  have hown : ss.vm.findClass RX4 = some mm.cls := hown
  have hl : lv_has ls 5 [(0, .ref (q 0)), (1, .int (nI i)), (2, .int (nI x)), (3, .int (nI y))] := hl
  refine lv_iload_n hx hb dX4_shown_0 rfl (lv_at hl 1 rfl) ?_
  refine gc_Si (va_runS (As := [.int (nI i)]) (rest := []) ⟨hx, hb, hml, hown, hts⟩ (c_X4_isClient l D cy (nI i)) (va_cwS 1 hts gX4_shown_X4_isClient rfl rfl rfl (by decide +kernel) ⟨Nat.le_of_ble_eq_true rfl, Nat.le_of_ble_eq_true rfl⟩) (gpSR hG (hP.sub [] rfl)) rfl rfl hl.1 rfl (lv_room (Nat.le_of_ble_eq_true rfl)) dX4_shown_1 ⟨Nat.zero_le _, Nat.zero_le _⟩) ?_
  refine lv_if_eq (tgt := 19) hx hb dX4_shown_4 (by decide) (fun c_4 => ?_) (fun c_4 => ?_)
  · skip
    have c_4 : ¬ (pIn (nI i) 0 1) := gb_eq0.mp c_4
    exact absurd (ok_idx (n := 1) (by omega) (by decide)) c_4
  · skip
    have c_4 : pIn (nI i) 0 1 := gb_ne0.mp c_4
    refine lv_iload_n hx hb dX4_shown_7 rfl (lv_at hl 2 rfl) ?_
    refine lv_iload_n hx hb dX4_shown_8 rfl (lv_at hl 3 rfl) ?_
    refine gc_Si (va_runS (As := [.int (nI x), .int (nI y)]) (rest := []) ⟨hx, hb, hml, hown, hts⟩ (c_X4_isCell l D cy (nI x) (nI y)) (va_cwS 2 hts gX4_shown_X4_isCell rfl rfl rfl (by decide +kernel) ⟨Nat.le_of_ble_eq_true rfl, Nat.le_of_ble_eq_true rfl⟩) (gpSR hG (hP.sub [] rfl)) rfl rfl hl.1 rfl (lv_room (Nat.le_of_ble_eq_true rfl)) dX4_shown_9 ⟨Nat.zero_le _, Nat.zero_le _⟩) ?_
    refine lv_if_eq (tgt := 19) hx hb dX4_shown_12 (by decide) (fun c_12 => ?_) (fun c_12 => ?_)
    · skip
      have c_12 : ¬ (pCell (nI x) (nI y)) := gb_eq0.mp c_12
      exact absurd (ok_cell hx9 hy9) c_12
    · skip
      have c_12 : pCell (nI x) (nI y) := gb_ne0.mp c_12
      refine lv_iconst (v := nI 1) hx hb dX4_shown_15 (by decide) ?_
      refine lv_goto (tgt := 20) hx hb dX4_shown_16 (by decide) ?_
      refine lv_istore (lv' := [(4, .int (nI 1)), (0, .ref (q 0)), (1, .int (nI i)), (2, .int (nI x)), (3, .int (nI y))]) hx hb dX4_shown_20 hl (by decide) rfl (fun ls hl => ?_)
      refine lv_aload_n hx hb dX4_shown_22 rfl (lv_at hl 1 rfl) ?_
      refine lv_iload hx hb dX4_shown_23 (lv_at hl 0 rfl) ?_
      refine lv_if_ne (tgt := 32) hx hb dX4_shown_25 (by decide) (fun c_25 => ?_) (fun c_25 => ?_)
      · skip
        have c_25 : ¬ 1 = 0 := fun z => c_25 ((nI_eq (a := 1) (b := 0) (by omega) (by omega)).mpr z)
        refine lv_aload_n hx hb dX4_shown_32 rfl (lv_at hl 1 rfl) ?_
        refine va_get (D := D) (ci := 4) (v := .ref (q 3)) (C := RX4) (T := TX4) (N := 17) hx hb hts iX4_shown_X4 hown hG.1 hP 0 rfl rfl 3 (by decide) (hts (.fieldLink RX4 16 "DirtyTilesModel" "isIn" "[Z") (by decide +kernel)) (fun _ h9 => h9) rfl dX4_shown_33 ?_
        refine lv_iload_n hx hb dX4_shown_36 rfl (lv_at hl 2 rfl) ?_
        refine g_zald hx hb hG hP 1 2 rfl rfl (k := i) (by omega) (by decide) dX4_shown_37 ?_
        refine g_ti (y := gb (J)) (hj) ?_
        refine lv_if_eq (tgt := 45) hx hb dX4_shown_38 (by decide) (fun c_38 => ?_) (fun c_38 => ?_)
        · skip
          have c_38 : ¬ (J) := gb_eq0.mp c_38
          exact absurd (hJ) c_38
        · skip
          have c_38 : J := gb_ne0.mp c_38
          refine lv_iconst (v := nI 0) hx hb dX4_shown_41 (by decide) ?_
          refine lv_goto (tgt := 46) hx hb dX4_shown_42 (by decide) ?_
          refine gc_Wi (wn := fun u => [(q 0, eMod (nI 0) q U), (q 3, eZ cy 2 is), (q 4, eI cy 384 ss9)]) (wr := [(q 3, eZ cy 2 is), (q 4, eI cy 384 ss9)]) (va_runV (As := [.int (nI 0)]) (rest := []) ⟨hx, hb, hml, hown, hts⟩ (c_X4_goesWell l D cy H.size q T U 0 (by decide)) (cwV 1 hts gX4_shown_X4_goesWell rfl rfl rfl (by decide +kernel) ⟨Nat.le_of_ble_eq_true rfl, Nat.le_of_ble_eq_true rfl⟩) (gpVI (ci := 4) (q0 := 0) hG (hP.sub [0] rfl) (hD.sub [0] (by decide) rfl) rfl rfl) rfl rfl hl.1 rfl (lv_room (Nat.le_of_ble_eq_true rfl)) dX4_shown_46 ⟨Nat.zero_le _, Nat.zero_le _⟩) hP hD hS hA [0] [1, 2] [2, 0, 1] rfl rfl (by decide) (by decide) (fun _ => rfl) (by decide) (fun r_46 _u H locs hw_46 hP hD hS => ?_)
          have hP : va_P D vwCl [(q 0, eMod (nI 0) q U), (q 3, eZ cy 2 is), (q 4, eI cy 384 ss9)] H := hP
          have hD : va_D AA [(q 0, eMod (nI 0) q U), (q 3, eZ cy 2 is), (q 4, eI cy 384 ss9)] := hD
          obtain ⟨hr_46, hw_46⟩ := hw_46
          refine g_ti (y := gb (0 = 0)) hr_46 ?_
          have hw_46 : True := hw_46
          refine lv_if_eq (tgt := 72) hx hb dX4_shown_49 (by decide) (fun c_49 => ?_) (fun c_49 => ?_)
          · skip
            have c_49 : ¬ (0 = 0) := gb_eq0.mp c_49
            exact absurd (by decide) c_49
          · skip
            have c_49 : 0 = 0 := gb_ne0.mp c_49
            refine lv_aload_n hx hb dX4_shown_52 rfl (lv_at hl 1 rfl) ?_
            refine va_get (D := D) (ci := 4) (v := .ref (q 4)) (C := RX4) (T := TX4) (N := 17) hx hb hts iX4_shown_X4 hown hG.1 hP 0 rfl rfl 4 (by decide) (hts (.fieldLink RX4 20 "DirtyTilesModel" "screens" "[I") (by decide +kernel)) (fun _ h9 => h9) rfl dX4_shown_53 ?_
            refine lv_sipush (v := nI 192) hx hb dX4_shown_56 (by decide) ?_
            refine lv_iload_n hx hb dX4_shown_59 rfl (lv_at hl 2 rfl) ?_
            refine lv_imul hx hb dX4_shown_60 ?_
            refine g_ti (y := nI (192 * i)) (pk_mul _ _) ?_
            refine lv_bipush (v := nI 16) hx hb dX4_shown_61 (by decide) ?_
            refine lv_iload_n hx hb dX4_shown_63 rfl (lv_at hl 4 rfl) ?_
            refine lv_imul hx hb dX4_shown_64 ?_
            refine g_ti (y := nI (16 * y)) (pk_mul _ _) ?_
            refine lv_iadd hx hb dX4_shown_65 ?_
            refine g_ti (y := nI ((192 * i) + (16 * y))) (nI_add _ _) ?_
            refine lv_iload_n hx hb dX4_shown_66 rfl (lv_at hl 3 rfl) ?_
            refine lv_iadd hx hb dX4_shown_67 ?_
            refine g_ti (y := nI (((192 * i) + (16 * y)) + x)) (nI_add _ _) ?_
            refine g_iald hx hb hG hP 2 0 rfl rfl (k := ((192 * i) + (16 * y)) + x) (by omega) (by decide) dX4_shown_68 ?_
            refine g_ti (y := nI (at2 S x y)) (by rw [Nat.add_assoc]; exact hs x y hx9 hy9) ?_
            refine lv_goto (tgt := 73) hx hb dX4_shown_69 (by decide) ?_
            exact hret _ _ _ _ _ () dX4_shown_73 (⟨rfl, trivial⟩) (hP.sub [0, 1, 2] rfl) (hD.sub [0, 1, 2] (by decide) rfl) hS
      · skip
        have c_25 : 1 = 0 := (nI_eq (a := 1) (b := 0) (by omega) (by omega)).mp c_25
        exact absurd c_25 (by decide)
theorem iX4_dirty_X4 : ∀ w ∈ wsX40, w ∈ wsX4_dirty := by decide +kernel
set_option maxHeartbeats 4000000 in
set_option maxRecDepth 100000 in
theorem c_X4_dirty (l : Launch) (D : va_G) (cy : Nat → ClassId) (sz : Nat) (q : Nat → Nat) (T U : Int32) (is mn : Nat → Int32) (i n : Nat) (J : Prop) (hi : i < 2) (hj : is i = gb (J)) (hJ : J) (hm9 : mn i = nI n) : Met l yX4_dirty wsX4_dirty ({ frames := 3, cells := 0, slots := 0, locals := 63 } : Room) (va_Pc [.ref (q 0), .int (nI i)] (gI D (gT cy) [(q 0, eMod T q U), (q 3, eZ cy 2 is), (q 10, eI cy 2 mn)] sz)) (va_Qi (fun (r9 : Int32) (u : Unit) => r9 = nI n ∧ ((True))) (gO D (fun u : Unit => [(q 0, eMod (nI 0) q U), (q 3, eZ cy 2 is), (q 10, eI cy 2 mn)]) (va_A [(q 0, eMod T q U), (q 3, eZ cy 2 is), (q 10, eI cy 2 mn)] sz)) (va_A [(q 0, eMod T q U), (q 3, eZ cy 2 is), (q 10, eI cy 2 mn)] sz)) 0 0 (va_A [(q 0, eMod T q U), (q 3, eZ cy 2 is), (q 10, eI cy 2 mn)] sz) := by
  refine gW_i (cc := cX4_dirty) (maxL := 2) (ty := .int) (by decide) rfl (Nat.le_of_ble_eq_true rfl) (fun v u hv => by rfl) ?_
  intro pp ee ss mm bw mt cd QQ AA ls hfx hP hG hD hA hret hl
  have hS : va_S AA ss.heap ss.heap [] := va_S.rf
  obtain ⟨H, eH⟩ : ∃ H, H = ss.heap := ⟨_, rfl⟩
  obtain ⟨locs, eL⟩ : ∃ L : List Loc, L = [] := ⟨_, rfl⟩
  have hP : va_P D vwCl [(q 0, eMod T q U), (q 3, eZ cy 2 is), (q 10, eI cy 2 mn)] H := by rw [eH]; exact hP
  have hS : va_S AA ss.heap H locs := by rw [eH, eL]; exact hS
  have goal : ∀ X Y, X = H → Y = locs → W pp l ee ({ frames := 3, cells := 0, slots := 0, locals := 63 } : Room) ss mm ([.ref (q 0), .int (nI i)] : List Value).toArray bw mt cd X Y 0 0 QQ (F0 mm 0 ls []) → W pp l ee ({ frames := 3, cells := 0, slots := 0, locals := 63 } : Room) ss mm ([.ref (q 0), .int (nI i)] : List Value).toArray bw mt cd ss.heap [] 0 0 QQ (F0 mm 0 ls []) := fun X Y hX hY h => by rw [hX, hY, eH, eL] at h; exact h
  refine goal H locs rfl rfl ?_
  clear goal eH eL
  obtain ⟨hx, hb, hml, hown, hts, hlocks⟩ := hfx
  have hown : ss.vm.findClass RX4 = some mm.cls := hown
  have hl : lv_has ls 2 [(0, .ref (q 0)), (1, .int (nI i))] := hl
  refine lv_aload_n hx hb dX4_dirty_0 rfl (lv_at hl 0 rfl) ?_
  refine lv_iload_n hx hb dX4_dirty_1 rfl (lv_at hl 1 rfl) ?_
  refine gc_Wi (wn := fun u => [(q 0, eMod (nI 0) q U), (q 3, eZ cy 2 is), (q 10, eI cy 2 mn)]) (wr := [(q 10, eI cy 2 mn)]) (va_runV (As := [.int (nI i)]) (rest := []) ⟨hx, hb, hml, hown, hts⟩ (c_X4_isJoined l D cy H.size q T U i is J hi hj hJ) (cwV 1 hts gX4_dirty_X4_isJoined rfl rfl rfl (by decide +kernel) ⟨Nat.le_of_ble_eq_true rfl, Nat.le_of_ble_eq_true rfl⟩) (gpVI (ci := 4) (q0 := 0) hG (hP.sub [0, 1] rfl) (hD.sub [0, 1] (by decide) rfl) rfl rfl) rfl rfl hl.1 rfl (lv_room (Nat.le_of_ble_eq_true rfl)) dX4_dirty_2 ⟨Nat.zero_le _, Nat.zero_le _⟩) hP hD hS hA [0, 1] [2] [1, 2, 0] rfl rfl (by decide) (by decide) (fun _ => rfl) (by decide) (fun r_2 _u H locs hw_2 hP hD hS => ?_)
  have hP : va_P D vwCl [(q 0, eMod (nI 0) q U), (q 3, eZ cy 2 is), (q 10, eI cy 2 mn)] H := hP
  have hD : va_D AA [(q 0, eMod (nI 0) q U), (q 3, eZ cy 2 is), (q 10, eI cy 2 mn)] := hD
  obtain ⟨hr_2, hw_2⟩ := hw_2
  refine g_ti (y := gb (0 = 0)) hr_2 ?_
  have hw_2 : True := hw_2
  refine lv_if_eq (tgt := 17) hx hb dX4_dirty_5 (by decide) (fun c_5 => ?_) (fun c_5 => ?_)
  · skip
    have c_5 : ¬ (0 = 0) := gb_eq0.mp c_5
    exact absurd (by decide) c_5
  · skip
    have c_5 : 0 = 0 := gb_ne0.mp c_5
    refine lv_aload_n hx hb dX4_dirty_8 rfl (lv_at hl 0 rfl) ?_
    refine va_get (D := D) (ci := 4) (v := .ref (q 10)) (C := RX4) (T := TX4) (N := 17) hx hb hts iX4_dirty_X4 hown hG.1 hP 0 rfl rfl 10 (by decide) (hts (.fieldLink RX4 38 "DirtyTilesModel" "many" "[I") (by decide +kernel)) (fun _ h9 => h9) rfl dX4_dirty_9 ?_
    refine lv_iload_n hx hb dX4_dirty_12 rfl (lv_at hl 1 rfl) ?_
    refine g_iald hx hb hG hP 2 0 rfl rfl (k := i) (by omega) (by decide) dX4_dirty_13 ?_
    refine g_ti (y := nI n) (hm9) ?_
    refine lv_goto (tgt := 18) hx hb dX4_dirty_14 (by decide) ?_
    exact hret _ _ _ _ _ () dX4_dirty_18 (⟨rfl, trivial⟩) (hP.sub [0, 1, 2] rfl) (hD.sub [0, 1, 2] (by decide) rfl) hS
theorem iX4_cached_X4 : ∀ w ∈ wsX40, w ∈ wsX4_cached := by decide +kernel
set_option maxHeartbeats 4000000 in
set_option maxRecDepth 100000 in
theorem c_X4_cached (l : Launch) (D : va_G) (cy : Nat → ClassId) (sz : Nat) (q : Nat → Nat) (T U : Int32) (is zo : Nat → Int32) (i n : Nat) (J : Prop) (hi : i < 2) (hj : is i = gb (J)) (hJ : J) (hm9 : zo i = nI n) : Met l yX4_cached wsX4_cached ({ frames := 3, cells := 0, slots := 0, locals := 63 } : Room) (va_Pc [.ref (q 0), .int (nI i)] (gI D (gT cy) [(q 0, eMod T q U), (q 3, eZ cy 2 is), (q 8, eI cy 2 zo)] sz)) (va_Qi (fun (r9 : Int32) (u : Unit) => r9 = nI n ∧ ((True))) (gO D (fun u : Unit => [(q 0, eMod (nI 0) q U), (q 3, eZ cy 2 is), (q 8, eI cy 2 zo)]) (va_A [(q 0, eMod T q U), (q 3, eZ cy 2 is), (q 8, eI cy 2 zo)] sz)) (va_A [(q 0, eMod T q U), (q 3, eZ cy 2 is), (q 8, eI cy 2 zo)] sz)) 0 0 (va_A [(q 0, eMod T q U), (q 3, eZ cy 2 is), (q 8, eI cy 2 zo)] sz) := by
  refine gW_i (cc := cX4_cached) (maxL := 2) (ty := .int) (by decide) rfl (Nat.le_of_ble_eq_true rfl) (fun v u hv => by rfl) ?_
  intro pp ee ss mm bw mt cd QQ AA ls hfx hP hG hD hA hret hl
  have hS : va_S AA ss.heap ss.heap [] := va_S.rf
  obtain ⟨H, eH⟩ : ∃ H, H = ss.heap := ⟨_, rfl⟩
  obtain ⟨locs, eL⟩ : ∃ L : List Loc, L = [] := ⟨_, rfl⟩
  have hP : va_P D vwCl [(q 0, eMod T q U), (q 3, eZ cy 2 is), (q 8, eI cy 2 zo)] H := by rw [eH]; exact hP
  have hS : va_S AA ss.heap H locs := by rw [eH, eL]; exact hS
  have goal : ∀ X Y, X = H → Y = locs → W pp l ee ({ frames := 3, cells := 0, slots := 0, locals := 63 } : Room) ss mm ([.ref (q 0), .int (nI i)] : List Value).toArray bw mt cd X Y 0 0 QQ (F0 mm 0 ls []) → W pp l ee ({ frames := 3, cells := 0, slots := 0, locals := 63 } : Room) ss mm ([.ref (q 0), .int (nI i)] : List Value).toArray bw mt cd ss.heap [] 0 0 QQ (F0 mm 0 ls []) := fun X Y hX hY h => by rw [hX, hY, eH, eL] at h; exact h
  refine goal H locs rfl rfl ?_
  clear goal eH eL
  obtain ⟨hx, hb, hml, hown, hts, hlocks⟩ := hfx
  have hown : ss.vm.findClass RX4 = some mm.cls := hown
  have hl : lv_has ls 2 [(0, .ref (q 0)), (1, .int (nI i))] := hl
  refine lv_aload_n hx hb dX4_cached_0 rfl (lv_at hl 0 rfl) ?_
  refine lv_iload_n hx hb dX4_cached_1 rfl (lv_at hl 1 rfl) ?_
  refine gc_Wi (wn := fun u => [(q 0, eMod (nI 0) q U), (q 3, eZ cy 2 is), (q 8, eI cy 2 zo)]) (wr := [(q 8, eI cy 2 zo)]) (va_runV (As := [.int (nI i)]) (rest := []) ⟨hx, hb, hml, hown, hts⟩ (c_X4_isJoined l D cy H.size q T U i is J hi hj hJ) (cwV 1 hts gX4_cached_X4_isJoined rfl rfl rfl (by decide +kernel) ⟨Nat.le_of_ble_eq_true rfl, Nat.le_of_ble_eq_true rfl⟩) (gpVI (ci := 4) (q0 := 0) hG (hP.sub [0, 1] rfl) (hD.sub [0, 1] (by decide) rfl) rfl rfl) rfl rfl hl.1 rfl (lv_room (Nat.le_of_ble_eq_true rfl)) dX4_cached_2 ⟨Nat.zero_le _, Nat.zero_le _⟩) hP hD hS hA [0, 1] [2] [1, 2, 0] rfl rfl (by decide) (by decide) (fun _ => rfl) (by decide) (fun r_2 _u H locs hw_2 hP hD hS => ?_)
  have hP : va_P D vwCl [(q 0, eMod (nI 0) q U), (q 3, eZ cy 2 is), (q 8, eI cy 2 zo)] H := hP
  have hD : va_D AA [(q 0, eMod (nI 0) q U), (q 3, eZ cy 2 is), (q 8, eI cy 2 zo)] := hD
  obtain ⟨hr_2, hw_2⟩ := hw_2
  refine g_ti (y := gb (0 = 0)) hr_2 ?_
  have hw_2 : True := hw_2
  refine lv_if_eq (tgt := 17) hx hb dX4_cached_5 (by decide) (fun c_5 => ?_) (fun c_5 => ?_)
  · skip
    have c_5 : ¬ (0 = 0) := gb_eq0.mp c_5
    exact absurd (by decide) c_5
  · skip
    have c_5 : 0 = 0 := gb_ne0.mp c_5
    refine lv_aload_n hx hb dX4_cached_8 rfl (lv_at hl 0 rfl) ?_
    refine va_get (D := D) (ci := 4) (v := .ref (q 8)) (C := RX4) (T := TX4) (N := 17) hx hb hts iX4_cached_X4 hown hG.1 hP 0 rfl rfl 8 (by decide) (hts (.fieldLink RX4 32 "DirtyTilesModel" "ownSizes" "[I") (by decide +kernel)) (fun _ h9 => h9) rfl dX4_cached_9 ?_
    refine lv_iload_n hx hb dX4_cached_12 rfl (lv_at hl 1 rfl) ?_
    refine g_iald hx hb hG hP 2 0 rfl rfl (k := i) (by omega) (by decide) dX4_cached_13 ?_
    refine g_ti (y := nI n) (hm9) ?_
    refine lv_goto (tgt := 18) hx hb dX4_cached_14 (by decide) ?_
    exact hret _ _ _ _ _ () dX4_cached_18 (⟨rfl, trivial⟩) (hP.sub [0, 1, 2] rfl) (hD.sub [0, 1, 2] (by decide) rfl) hS
set_option maxHeartbeats 4000000 in
set_option maxRecDepth 100000 in
theorem c_X4_dirtyAt (l : Launch) (D : va_G) (cy : Nat → ClassId) (sz : Nat) (q : Nat → Nat) (T U : Int32) (is d mn : Nat → Int32) (i j : Nat) (L : List Nat) (J : Prop) (hi : i < 2) (hj : is i = gb (J)) (hJ : J) (hd : hNo L d i) (hm9 : mn i = nI L.length) (hl9 : L.length ≤ 12) (hjl : j < L.length) : Met l yX4_dirtyAt wsX4_dirtyAt ({ frames := 2, cells := 0, slots := 0, locals := 42 } : Room) (va_Pc [.ref (q 0), .int (nI i), .int (nI j)] (gI D (gT cy) [(q 0, eMod T q U), (q 3, eZ cy 2 is), (q 9, eI cy 24 d), (q 10, eI cy 2 mn)] sz)) (va_Qi (fun (r9 : Int32) (u : Unit) => r9 = nI (L.getD j 0) ∧ ((True))) (gO D (fun u : Unit => [(q 0, eMod (nI 0) q U), (q 3, eZ cy 2 is), (q 9, eI cy 24 d), (q 10, eI cy 2 mn)]) (va_A [(q 0, eMod T q U), (q 3, eZ cy 2 is), (q 9, eI cy 24 d), (q 10, eI cy 2 mn)] sz)) (va_A [(q 0, eMod T q U), (q 3, eZ cy 2 is), (q 9, eI cy 24 d), (q 10, eI cy 2 mn)] sz)) 0 0 (va_A [(q 0, eMod T q U), (q 3, eZ cy 2 is), (q 9, eI cy 24 d), (q 10, eI cy 2 mn)] sz) := by
  refine gW_i (cc := cX4_dirtyAt) (maxL := 4) (ty := .int) (by decide) rfl (Nat.le_of_ble_eq_true rfl) (fun v u hv => by rfl) ?_
  intro pp ee ss mm bw mt cd QQ AA ls hfx hP hG hD hA hret hl
  have hS : va_S AA ss.heap ss.heap [] := va_S.rf
  obtain ⟨H, eH⟩ : ∃ H, H = ss.heap := ⟨_, rfl⟩
  obtain ⟨locs, eL⟩ : ∃ L : List Loc, L = [] := ⟨_, rfl⟩
  have hP : va_P D vwCl [(q 0, eMod T q U), (q 3, eZ cy 2 is), (q 9, eI cy 24 d), (q 10, eI cy 2 mn)] H := by rw [eH]; exact hP
  have hS : va_S AA ss.heap H locs := by rw [eH, eL]; exact hS
  have goal : ∀ X Y, X = H → Y = locs → W pp l ee ({ frames := 2, cells := 0, slots := 0, locals := 42 } : Room) ss mm ([.ref (q 0), .int (nI i), .int (nI j)] : List Value).toArray bw mt cd X Y 0 0 QQ (F0 mm 0 ls []) → W pp l ee ({ frames := 2, cells := 0, slots := 0, locals := 42 } : Room) ss mm ([.ref (q 0), .int (nI i), .int (nI j)] : List Value).toArray bw mt cd ss.heap [] 0 0 QQ (F0 mm 0 ls []) := fun X Y hX hY h => by rw [hX, hY, eH, eL] at h; exact h
  refine goal H locs rfl rfl ?_
  clear goal eH eL
  obtain ⟨hx, hb, hml, hown, hts, hlocks⟩ := hfx
  have hown : ss.vm.findClass RX4 = some mm.cls := hown
  have hl : lv_has ls 4 [(0, .ref (q 0)), (1, .int (nI i)), (2, .int (nI j))] := hl
  refine lv_iload_n hx hb dX4_dirtyAt_0 rfl (lv_at hl 1 rfl) ?_
  refine gc_Si (va_runS (As := [.int (nI i)]) (rest := []) ⟨hx, hb, hml, hown, hts⟩ (c_X4_isClient l D cy (nI i)) (va_cwS 1 hts gX4_dirtyAt_X4_isClient rfl rfl rfl (by decide +kernel) ⟨Nat.le_of_ble_eq_true rfl, Nat.le_of_ble_eq_true rfl⟩) (gpSR hG (hP.sub [] rfl)) rfl rfl hl.1 rfl (lv_room (Nat.le_of_ble_eq_true rfl)) dX4_dirtyAt_1 ⟨Nat.zero_le _, Nat.zero_le _⟩) ?_
  refine lv_if_eq (tgt := 27) hx hb dX4_dirtyAt_4 (by decide) (fun c_4 => ?_) (fun c_4 => ?_)
  · skip
    have c_4 : ¬ (pIn (nI i) 0 1) := gb_eq0.mp c_4
    exact absurd (ok_idx (n := 1) (by omega) (by decide)) c_4
  · skip
    have c_4 : pIn (nI i) 0 1 := gb_ne0.mp c_4
    refine lv_iload_n hx hb dX4_dirtyAt_7 rfl (lv_at hl 2 rfl) ?_
    refine lv_iconst (v := nI 0) hx hb dX4_dirtyAt_8 (by decide) ?_
    refine lv_aload_n hx hb dX4_dirtyAt_9 rfl (lv_at hl 0 rfl) ?_
    refine va_get (D := D) (ci := 4) (v := .ref (q 10)) (C := RX4) (T := TX4) (N := 17) hx hb hts iX4_dirtyAt_X4 hown hG.1 hP 0 rfl rfl 10 (by decide) (hts (.fieldLink RX4 38 "DirtyTilesModel" "many" "[I") (by decide +kernel)) (fun _ h9 => h9) rfl dX4_dirtyAt_10 ?_
    refine lv_iload_n hx hb dX4_dirtyAt_13 rfl (lv_at hl 1 rfl) ?_
    refine g_iald hx hb hG hP 3 0 rfl rfl (k := i) (by omega) (by decide) dX4_dirtyAt_14 ?_
    refine g_ti (y := nI L.length) (hm9) ?_
    refine lv_iconst (v := nI 1) hx hb dX4_dirtyAt_15 (by decide) ?_
    refine lv_isub hx hb dX4_dirtyAt_16 ?_
    refine g_ti (y := nI (L.length - 1)) (pk_sub (by omega)) ?_
    refine gc_Si (va_runS (As := [.int (nI j), .int (nI 0), .int (nI (L.length - 1))]) (rest := []) ⟨hx, hb, hml, hown, hts⟩ (c_X4_in l D cy (nI j) (nI 0) (nI (L.length - 1))) (va_cwS 3 hts gX4_dirtyAt_X4_in rfl rfl rfl (by decide +kernel) ⟨Nat.le_of_ble_eq_true rfl, Nat.le_of_ble_eq_true rfl⟩) (gpSR hG (hP.sub [] rfl)) rfl rfl hl.1 rfl (lv_room (Nat.le_of_ble_eq_true rfl)) dX4_dirtyAt_17 ⟨Nat.zero_le _, Nat.zero_le _⟩) ?_
    refine lv_if_eq (tgt := 27) hx hb dX4_dirtyAt_20 (by decide) (fun c_20 => ?_) (fun c_20 => ?_)
    · skip
      have c_20 : ¬ (pIn (nI j) (nI 0).toInt (nI (L.length - 1)).toInt) := gb_eq0.mp c_20
      exact absurd (in_ok (by omega) (by omega)) c_20
    · skip
      have c_20 : pIn (nI j) (nI 0).toInt (nI (L.length - 1)).toInt := gb_ne0.mp c_20
      refine lv_iconst (v := nI 1) hx hb dX4_dirtyAt_23 (by decide) ?_
      refine lv_goto (tgt := 28) hx hb dX4_dirtyAt_24 (by decide) ?_
      refine lv_istore_n (lv' := [(3, .int (nI 1)), (0, .ref (q 0)), (1, .int (nI i)), (2, .int (nI j))]) hx hb dX4_dirtyAt_28 rfl hl (by decide) rfl (fun ls hl => ?_)
      refine lv_aload_n hx hb dX4_dirtyAt_29 rfl (lv_at hl 1 rfl) ?_
      refine lv_iload_n hx hb dX4_dirtyAt_30 rfl (lv_at hl 2 rfl) ?_
      refine gc_Si (va_runS (As := [.int (nI i)]) (rest := [.ref (q 0)]) ⟨hx, hb, hml, hown, hts⟩ (c_X4_isClient l D cy (nI i)) (va_cwS 1 hts gX4_dirtyAt_X4_isClient rfl rfl rfl (by decide +kernel) ⟨Nat.le_of_ble_eq_true rfl, Nat.le_of_ble_eq_true rfl⟩) (gpSR hG (hP.sub [] rfl)) rfl rfl hl.1 rfl (lv_room (Nat.le_of_ble_eq_true rfl)) dX4_dirtyAt_31 ⟨Nat.zero_le _, Nat.zero_le _⟩) ?_
      refine lv_if_ne (tgt := 41) hx hb dX4_dirtyAt_34 (by decide) (fun c_34 => ?_) (fun c_34 => ?_)
      · skip
        have c_34 : pIn (nI i) 0 1 := gb_ne0.mp c_34
        refine lv_aload_n hx hb dX4_dirtyAt_41 rfl (lv_at hl 1 rfl) ?_
        refine va_get (D := D) (ci := 4) (v := .ref (q 3)) (C := RX4) (T := TX4) (N := 17) hx hb hts iX4_dirtyAt_X4 hown hG.1 hP 0 rfl rfl 3 (by decide) (hts (.fieldLink RX4 16 "DirtyTilesModel" "isIn" "[Z") (by decide +kernel)) (fun _ h9 => h9) rfl dX4_dirtyAt_42 ?_
        refine lv_iload_n hx hb dX4_dirtyAt_45 rfl (lv_at hl 2 rfl) ?_
        refine g_zald hx hb hG hP 1 2 rfl rfl (k := i) (by omega) (by decide) dX4_dirtyAt_46 ?_
        refine g_ti (y := gb (J)) (hj) ?_
        refine lv_if_ne (tgt := 54) hx hb dX4_dirtyAt_47 (by decide) (fun c_47 => ?_) (fun c_47 => ?_)
        · skip
          have c_47 : J := gb_ne0.mp c_47
          refine lv_iload_n hx hb dX4_dirtyAt_54 rfl (lv_at hl 0 rfl) ?_
          refine lv_if_eq (tgt := 62) hx hb dX4_dirtyAt_55 (by decide) (fun c_55 => ?_) (fun c_55 => ?_)
          · skip
            have c_55 : 1 = 0 := (nI_eq (a := 1) (b := 0) (by omega) (by omega)).mp c_55
            exact absurd c_55 (by decide)
          · skip
            have c_55 : ¬ 1 = 0 := fun z => c_55 ((nI_eq (a := 1) (b := 0) (by omega) (by omega)).mpr z)
            refine lv_iconst (v := nI 0) hx hb dX4_dirtyAt_58 (by decide) ?_
            refine lv_goto (tgt := 63) hx hb dX4_dirtyAt_59 (by decide) ?_
            refine gc_Wi (wn := fun u => [(q 0, eMod (nI 0) q U), (q 3, eZ cy 2 is), (q 9, eI cy 24 d), (q 10, eI cy 2 mn)]) (wr := [(q 3, eZ cy 2 is), (q 9, eI cy 24 d), (q 10, eI cy 2 mn)]) (va_runV (As := [.int (nI 0)]) (rest := []) ⟨hx, hb, hml, hown, hts⟩ (c_X4_goesWell l D cy H.size q T U 0 (by decide)) (cwV 1 hts gX4_dirtyAt_X4_goesWell rfl rfl rfl (by decide +kernel) ⟨Nat.le_of_ble_eq_true rfl, Nat.le_of_ble_eq_true rfl⟩) (gpVI (ci := 4) (q0 := 0) hG (hP.sub [0] rfl) (hD.sub [0] (by decide) rfl) rfl rfl) rfl rfl hl.1 rfl (lv_room (Nat.le_of_ble_eq_true rfl)) dX4_dirtyAt_63 ⟨Nat.zero_le _, Nat.zero_le _⟩) hP hD hS hA [0] [1, 2, 3] [3, 0, 1, 2] rfl rfl (by decide) (by decide) (fun _ => rfl) (by decide) (fun r_63 _u H locs hw_63 hP hD hS => ?_)
            have hP : va_P D vwCl [(q 0, eMod (nI 0) q U), (q 3, eZ cy 2 is), (q 9, eI cy 24 d), (q 10, eI cy 2 mn)] H := hP
            have hD : va_D AA [(q 0, eMod (nI 0) q U), (q 3, eZ cy 2 is), (q 9, eI cy 24 d), (q 10, eI cy 2 mn)] := hD
            obtain ⟨hr_63, hw_63⟩ := hw_63
            refine g_ti (y := gb (0 = 0)) hr_63 ?_
            have hw_63 : True := hw_63
            refine lv_if_eq (tgt := 83) hx hb dX4_dirtyAt_66 (by decide) (fun c_66 => ?_) (fun c_66 => ?_)
            · skip
              have c_66 : ¬ (0 = 0) := gb_eq0.mp c_66
              exact absurd (by decide) c_66
            · skip
              have c_66 : 0 = 0 := gb_ne0.mp c_66
              refine lv_aload_n hx hb dX4_dirtyAt_69 rfl (lv_at hl 1 rfl) ?_
              refine va_get (D := D) (ci := 4) (v := .ref (q 9)) (C := RX4) (T := TX4) (N := 17) hx hb hts iX4_dirtyAt_X4 hown hG.1 hP 0 rfl rfl 9 (by decide) (hts (.fieldLink RX4 35 "DirtyTilesModel" "dirty" "[I") (by decide +kernel)) (fun _ h9 => h9) rfl dX4_dirtyAt_70 ?_
              refine lv_bipush (v := nI 12) hx hb dX4_dirtyAt_73 (by decide) ?_
              refine lv_iload_n hx hb dX4_dirtyAt_75 rfl (lv_at hl 2 rfl) ?_
              refine lv_imul hx hb dX4_dirtyAt_76 ?_
              refine g_ti (y := nI (12 * i)) (pk_mul _ _) ?_
              refine lv_iload_n hx hb dX4_dirtyAt_77 rfl (lv_at hl 3 rfl) ?_
              refine lv_iadd hx hb dX4_dirtyAt_78 ?_
              refine g_ti (y := nI ((12 * i) + j)) (nI_add _ _) ?_
              refine g_iald hx hb hG hP 2 0 rfl rfl (k := (12 * i) + j) (by omega) (by decide) dX4_dirtyAt_79 ?_
              refine g_ti (y := nI (L.getD j 0)) (hd j hjl) ?_
              refine lv_goto (tgt := 84) hx hb dX4_dirtyAt_80 (by decide) ?_
              exact hret _ _ _ _ _ () dX4_dirtyAt_84 (⟨rfl, trivial⟩) (hP.sub [0, 1, 2, 3] rfl) (hD.sub [0, 1, 2, 3] (by decide) rfl) hS
        · skip
          have c_47 : ¬ (J) := gb_eq0.mp c_47
          exact absurd (hJ) c_47
      · skip
        have c_34 : ¬ (pIn (nI i) 0 1) := gb_eq0.mp c_34
        exact absurd (ok_idx (n := 1) (by omega) (by decide)) c_34
theorem iX4_unlike_X4 : ∀ w ∈ wsX40, w ∈ wsX4_unlike := by decide +kernel
set_option maxHeartbeats 4000000 in
set_option maxRecDepth 100000 in
theorem c_X4_unlike (l : Launch) (D : va_G) (cy : Nat → ClassId) (sz : Nat) (q : Nat → Nat) (T U : Int32) (sc is ss9 : Nat → Int32) (S So : Nat → Int64) (i : Nat) (J : Prop) (hi : i < 2) (hj : is i = gb (J)) (hJ : J) (hs : hS S sc) (hso : hSo So ss9 i) : Met l yX4_unlike wsX4_unlike ({ frames := 3, cells := 0, slots := 0, locals := 63 } : Room) (va_Pc [.ref (q 0), .int (nI i)] (gI D (gT cy) [(q 0, eMod T q U), (q 1, eI cy 192 sc), (q 3, eZ cy 2 is), (q 4, eI cy 384 ss9)] sz)) (va_Qi (fun (r9 : Int32) (u : Unit) => r9 = nI (sumD So S 12) ∧ ((True))) (gO D (fun u : Unit => [(q 0, eMod (nI 0) q U), (q 1, eI cy 192 sc), (q 3, eZ cy 2 is), (q 4, eI cy 384 ss9)]) (va_A [(q 0, eMod T q U), (q 1, eI cy 192 sc), (q 3, eZ cy 2 is), (q 4, eI cy 384 ss9)] sz)) (va_A [(q 0, eMod T q U), (q 1, eI cy 192 sc), (q 3, eZ cy 2 is), (q 4, eI cy 384 ss9)] sz)) 0 0 (va_A [(q 0, eMod T q U), (q 1, eI cy 192 sc), (q 3, eZ cy 2 is), (q 4, eI cy 384 ss9)] sz) := by
  refine gW_i (cc := cX4_unlike) (maxL := 4) (ty := .int) (by decide) rfl (Nat.le_of_ble_eq_true rfl) (fun v u hv => by rfl) ?_
  intro pp ee ss mm bw mt cd QQ AA ls hfx hP hG hD hA hret hl
  have hS : va_S AA ss.heap ss.heap [] := va_S.rf
  obtain ⟨H, eH⟩ : ∃ H, H = ss.heap := ⟨_, rfl⟩
  obtain ⟨locs, eL⟩ : ∃ L : List Loc, L = [] := ⟨_, rfl⟩
  have hP : va_P D vwCl [(q 0, eMod T q U), (q 1, eI cy 192 sc), (q 3, eZ cy 2 is), (q 4, eI cy 384 ss9)] H := by rw [eH]; exact hP
  have hS : va_S AA ss.heap H locs := by rw [eH, eL]; exact hS
  have goal : ∀ X Y, X = H → Y = locs → W pp l ee ({ frames := 3, cells := 0, slots := 0, locals := 63 } : Room) ss mm ([.ref (q 0), .int (nI i)] : List Value).toArray bw mt cd X Y 0 0 QQ (F0 mm 0 ls []) → W pp l ee ({ frames := 3, cells := 0, slots := 0, locals := 63 } : Room) ss mm ([.ref (q 0), .int (nI i)] : List Value).toArray bw mt cd ss.heap [] 0 0 QQ (F0 mm 0 ls []) := fun X Y hX hY h => by rw [hX, hY, eH, eL] at h; exact h
  refine goal H locs rfl rfl ?_
  clear goal eH eL
  obtain ⟨hx, hb, hml, hown, hts, hlocks⟩ := hfx
  have hown : ss.vm.findClass RX4 = some mm.cls := hown
  have hl : lv_has ls 4 [(0, .ref (q 0)), (1, .int (nI i))] := hl
  refine lv_aload_n hx hb dX4_unlike_0 rfl (lv_at hl 0 rfl) ?_
  refine lv_iload_n hx hb dX4_unlike_1 rfl (lv_at hl 1 rfl) ?_
  refine gc_Wi (wn := fun u => [(q 0, eMod (nI 0) q U), (q 1, eI cy 192 sc), (q 3, eZ cy 2 is), (q 4, eI cy 384 ss9)]) (wr := [(q 1, eI cy 192 sc), (q 4, eI cy 384 ss9)]) (va_runV (As := [.int (nI i)]) (rest := []) ⟨hx, hb, hml, hown, hts⟩ (c_X4_isJoined l D cy H.size q T U i is J hi hj hJ) (cwV 1 hts gX4_unlike_X4_isJoined rfl rfl rfl (by decide +kernel) ⟨Nat.le_of_ble_eq_true rfl, Nat.le_of_ble_eq_true rfl⟩) (gpVI (ci := 4) (q0 := 0) hG (hP.sub [0, 2] rfl) (hD.sub [0, 2] (by decide) rfl) rfl rfl) rfl rfl hl.1 rfl (lv_room (Nat.le_of_ble_eq_true rfl)) dX4_unlike_2 ⟨Nat.zero_le _, Nat.zero_le _⟩) hP hD hS hA [0, 2] [1, 3] [2, 0, 3, 1] rfl rfl (by decide) (by decide) (fun _ => rfl) (by decide) (fun r_2 _u H locs hw_2 hP hD hS => ?_)
  have hP : va_P D vwCl [(q 0, eMod (nI 0) q U), (q 1, eI cy 192 sc), (q 3, eZ cy 2 is), (q 4, eI cy 384 ss9)] H := hP
  have hD : va_D AA [(q 0, eMod (nI 0) q U), (q 1, eI cy 192 sc), (q 3, eZ cy 2 is), (q 4, eI cy 384 ss9)] := hD
  obtain ⟨hr_2, hw_2⟩ := hw_2
  refine g_ti (y := gb (0 = 0)) hr_2 ?_
  have hw_2 : True := hw_2
  refine lv_if_ne (tgt := 10) hx hb dX4_unlike_5 (by decide) (fun c_5 => ?_) (fun c_5 => ?_)
  · skip
    have c_5 : 0 = 0 := gb_ne0.mp c_5
    refine lv_iconst (v := nI 0) hx hb dX4_unlike_10 (by decide) ?_
    refine lv_istore_n (lv' := [(2, .int (nI 0)), (0, .ref (q 0)), (1, .int (nI i))]) hx hb dX4_unlike_11 rfl hl (by decide) rfl (fun ls hl => ?_)
    refine lv_iconst (v := nI 0) hx hb dX4_unlike_12 (by decide) ?_
    refine lv_istore_n (lv' := [(3, .int (nI 0)), (2, .int (nI 0)), (0, .ref (q 0)), (1, .int (nI i))]) hx hb dX4_unlike_13 rfl hl (by decide) rfl (fun ls hl => ?_)
    have loop_14 : ∀ (n9 : Nat) (k w : Nat), 192 - k < n9 → (k ≤ 192) → (w = fb_sm (cdf So S) k) → ∀ (H : Heap) (locs : List Loc) (ls : Array Slot), va_P D vwCl [(q 0, eMod (nI 0) q U), (q 1, eI cy 192 sc), (q 3, eZ cy 2 is), (q 4, eI cy 384 ss9)] H → va_D AA [(q 0, eMod (nI 0) q U), (q 1, eI cy 192 sc), (q 3, eZ cy 2 is), (q 4, eI cy 384 ss9)] → va_S AA ss.heap H locs → lv_has ls 4 [(0, .ref (q 0)), (1, .int (nI i)), (2, .int (nI w)), (3, .int (nI k))] → W pp l ee ({ frames := 3, cells := 0, slots := 0, locals := 63 } : Room) ss mm ([.ref (q 0), .int (nI i)] : List Value).toArray bw mt cd H locs 0 0 QQ (F0 mm 14 ls []) := by
      intro n9
      induction n9 with
      | zero => intro k w h9; exact absurd h9 (Nat.not_lt_zero _)
      | succ n9 ih_14 =>
        intro k w hm_14 hk hw H locs ls hP hD hS hl
        refine lv_iload_n hx hb dX4_unlike_14 rfl (lv_at hl 3 rfl) ?_
        refine lv_sipush (v := nI 192) hx hb dX4_unlike_15 (by decide) ?_
        refine lv_icmp_ge (tgt := 56) hx hb dX4_unlike_18 (by decide) (fun c_18 => ?_) (fun c_18 => ?_)
        · skip
          have c_18 : 192 ≤ k := (nI_leI (a := 192) (b := k) (by omega) (by omega)).mp c_18
          refine lv_iload_n hx hb dX4_unlike_56 rfl (lv_at hl 2 rfl) ?_
          exact hret _ _ _ _ _ () dX4_unlike_57 (⟨by have e9 : k = 192 := (by omega); rw [hw, e9, cdf_sum], trivial⟩) (hP.sub [0, 1, 2, 3] rfl) (hD.sub [0, 1, 2, 3] (by decide) rfl) hS
        · skip
          have c_18 : ¬ 192 ≤ k := fun z => c_18 ((nI_leI (a := 192) (b := k) (by omega) (by omega)).mpr z)
          refine lv_iload_n hx hb dX4_unlike_21 rfl (lv_at hl 2 rfl) ?_
          refine lv_aload_n hx hb dX4_unlike_22 rfl (lv_at hl 0 rfl) ?_
          refine va_get (D := D) (ci := 4) (v := .ref (q 4)) (C := RX4) (T := TX4) (N := 17) hx hb hts iX4_unlike_X4 hown hG.1 hP 0 rfl rfl 4 (by decide) (hts (.fieldLink RX4 20 "DirtyTilesModel" "screens" "[I") (by decide +kernel)) (fun _ h9 => h9) rfl dX4_unlike_23 ?_
          refine lv_sipush (v := nI 192) hx hb dX4_unlike_26 (by decide) ?_
          refine lv_iload_n hx hb dX4_unlike_29 rfl (lv_at hl 1 rfl) ?_
          refine lv_imul hx hb dX4_unlike_30 ?_
          refine g_ti (y := nI (192 * i)) (pk_mul _ _) ?_
          refine lv_iload_n hx hb dX4_unlike_31 rfl (lv_at hl 3 rfl) ?_
          refine lv_iadd hx hb dX4_unlike_32 ?_
          refine g_ti (y := nI ((192 * i) + k)) (nI_add _ _) ?_
          refine g_iald hx hb hG hP 3 0 rfl rfl (k := (192 * i) + k) (by omega) (by decide) dX4_unlike_33 ?_
          refine g_ti (y := nI (at2 So (k % 16) (k / 16))) (hSo_at hso (by omega)) ?_
          refine lv_aload_n hx hb dX4_unlike_34 rfl (lv_at hl 0 rfl) ?_
          refine va_get (D := D) (ci := 4) (v := .ref (q 1)) (C := RX4) (T := TX4) (N := 17) hx hb hts iX4_unlike_X4 hown hG.1 hP 0 rfl rfl 1 (by decide) (hts (.fieldLink RX4 7 "DirtyTilesModel" "screen" "[I") (by decide +kernel)) (fun _ h9 => h9) rfl dX4_unlike_35 ?_
          refine lv_iload_n hx hb dX4_unlike_38 rfl (lv_at hl 3 rfl) ?_
          refine g_iald hx hb hG hP 1 0 rfl rfl (k := k) (by omega) (by decide) dX4_unlike_39 ?_
          refine g_ti (y := nI (at2 S (k % 16) (k / 16))) (hS_at hs (by omega)) ?_
          refine lv_icmp_ne (tgt := 47) hx hb dX4_unlike_40 (by decide) (fun c_40 => ?_) (fun c_40 => ?_)
          · skip
            have c_40 : ¬ (at2 So (k % 16) (k / 16)) = (at2 S (k % 16) (k / 16)) := fun z => c_40 ((nI_eq (a := (at2 So (k % 16) (k / 16))) (b := (at2 S (k % 16) (k / 16))) (Nat.lt_trans (cel_lt _ _) (by decide)) (Nat.lt_trans (cel_lt _ _) (by decide))).mpr z)
            refine lv_iconst (v := nI 1) hx hb dX4_unlike_47 (by decide) ?_
            refine lv_iadd hx hb dX4_unlike_48 ?_
            refine g_ti (y := nI (w + 1)) (nI_add _ _) ?_
            refine lv_istore_n (lv' := [(2, .int (nI (w + 1))), (0, .ref (q 0)), (1, .int (nI i)), (3, .int (nI k))]) hx hb dX4_unlike_49 rfl hl (by decide) rfl (fun ls hl => ?_)
            refine lv_iinc (v := nI (k + 1)) (lv' := [(3, .int (nI (k + 1))), (2, .int (nI (w + 1))), (0, .ref (q 0)), (1, .int (nI i))]) hx hb dX4_unlike_50 hl (k := 3) rfl (nI_1 _) (by decide) rfl (fun ls hl => ?_)
            refine lv_goto (tgt := 14) hx hb dX4_unlike_53 (by decide) ?_
            exact ih_14 (k + 1) (w + 1) (by omega) (by omega) (by show _ = fb_sm (cdf So S) k + cdf So S k; first | (rw [cdf_1 c_40, hw]; done) | (rw [cdf_0 c_40, hw]; done)) _ _ _ (hP.sub [0, 1, 2, 3] rfl) (hD.sub [0, 1, 2, 3] (by decide) rfl) hS (lv_sub hl [2, 3, 1, 0] rfl)
          · skip
            have c_40 : (at2 So (k % 16) (k / 16)) = (at2 S (k % 16) (k / 16)) := (nI_eq (a := (at2 So (k % 16) (k / 16))) (b := (at2 S (k % 16) (k / 16))) (Nat.lt_trans (cel_lt _ _) (by decide)) (Nat.lt_trans (cel_lt _ _) (by decide))).mp c_40
            refine lv_iconst (v := nI 0) hx hb dX4_unlike_43 (by decide) ?_
            refine lv_goto (tgt := 48) hx hb dX4_unlike_44 (by decide) ?_
            refine lv_iadd hx hb dX4_unlike_48 ?_
            refine g_ti (y := nI (w + 0)) (nI_add _ _) ?_
            refine lv_istore_n (lv' := [(2, .int (nI (w + 0))), (0, .ref (q 0)), (1, .int (nI i)), (3, .int (nI k))]) hx hb dX4_unlike_49 rfl hl (by decide) rfl (fun ls hl => ?_)
            refine lv_iinc (v := nI (k + 1)) (lv' := [(3, .int (nI (k + 1))), (2, .int (nI (w + 0))), (0, .ref (q 0)), (1, .int (nI i))]) hx hb dX4_unlike_50 hl (k := 3) rfl (nI_1 _) (by decide) rfl (fun ls hl => ?_)
            refine lv_goto (tgt := 14) hx hb dX4_unlike_53 (by decide) ?_
            exact ih_14 (k + 1) (w + 0) (by omega) (by omega) (by show _ = fb_sm (cdf So S) k + cdf So S k; first | (rw [cdf_1 c_40, hw]; done) | (rw [cdf_0 c_40, hw]; done)) _ _ _ (hP.sub [0, 1, 2, 3] rfl) (hD.sub [0, 1, 2, 3] (by decide) rfl) hS (lv_sub hl [2, 3, 1, 0] rfl)
    exact loop_14 ((192 - 0) + 1) 0 0 (Nat.lt_succ_self _) (by omega) rfl _ _ _ (hP.sub [0, 1, 2, 3] rfl) (hD.sub [0, 1, 2, 3] (by decide) rfl) hS (lv_sub hl [2, 3, 1, 0] rfl)
  · skip
    have c_5 : ¬ (0 = 0) := gb_eq0.mp c_5
    exact absurd (by decide) c_5
theorem iX4_isAlike_X4 : ∀ w ∈ wsX40, w ∈ wsX4_isAlike := by decide +kernel
set_option maxHeartbeats 4000000 in
set_option maxRecDepth 100000 in
theorem c_X4_isAlike (l : Launch) (D : va_G) (cy : Nat → ClassId) (sz : Nat) (q : Nat → Nat) (T U : Int32) (is ca zs ow zo : Nat → Int32) (K L : List Int64) (i : Nat) (J : Prop) (hi : i < 2) (hj : is i = gb (J)) (hJ : J) (hca : hCo K ca i) (hsz : zs i = nI K.length) (hK : K.length ≤ 6) (how : hCo L ow i) (hzo : zo i = nI L.length) (hL : L.length ≤ 6) : Met l yX4_isAlike wsX4_isAlike ({ frames := 3, cells := 0, slots := 0, locals := 63 } : Room) (va_Pc [.ref (q 0), .int (nI i)] (gI D (gT cy) [(q 0, eMod T q U), (q 3, eZ cy 2 is), (q 5, eI cy 224 ca), (q 6, eI cy 2 zs), (q 7, eI cy 224 ow), (q 8, eI cy 2 zo)] sz)) (va_Qi (fun (r9 : Int32) (u : Unit) => r9 = gb (K = L) ∧ ((True))) (gO D (fun u : Unit => [(q 0, eMod (nI 0) q U), (q 3, eZ cy 2 is), (q 5, eI cy 224 ca), (q 6, eI cy 2 zs), (q 7, eI cy 224 ow), (q 8, eI cy 2 zo)]) (va_A [(q 0, eMod T q U), (q 3, eZ cy 2 is), (q 5, eI cy 224 ca), (q 6, eI cy 2 zs), (q 7, eI cy 224 ow), (q 8, eI cy 2 zo)] sz)) (va_A [(q 0, eMod T q U), (q 3, eZ cy 2 is), (q 5, eI cy 224 ca), (q 6, eI cy 2 zs), (q 7, eI cy 224 ow), (q 8, eI cy 2 zo)] sz)) 0 0 (va_A [(q 0, eMod T q U), (q 3, eZ cy 2 is), (q 5, eI cy 224 ca), (q 6, eI cy 2 zs), (q 7, eI cy 224 ow), (q 8, eI cy 2 zo)] sz) := by
  refine gW_i (cc := cX4_isAlike) (maxL := 4) (ty := .boolean) (by decide) rfl (Nat.le_of_ble_eq_true rfl) (fun v u hv => by rw [hv.1]; exact gb_nar _) ?_
  intro pp ee ss mm bw mt cd QQ AA ls hfx hP hG hD hA hret hl
  have hS : va_S AA ss.heap ss.heap [] := va_S.rf
  obtain ⟨H, eH⟩ : ∃ H, H = ss.heap := ⟨_, rfl⟩
  obtain ⟨locs, eL⟩ : ∃ L : List Loc, L = [] := ⟨_, rfl⟩
  have hP : va_P D vwCl [(q 0, eMod T q U), (q 3, eZ cy 2 is), (q 5, eI cy 224 ca), (q 6, eI cy 2 zs), (q 7, eI cy 224 ow), (q 8, eI cy 2 zo)] H := by rw [eH]; exact hP
  have hS : va_S AA ss.heap H locs := by rw [eH, eL]; exact hS
  have goal : ∀ X Y, X = H → Y = locs → W pp l ee ({ frames := 3, cells := 0, slots := 0, locals := 63 } : Room) ss mm ([.ref (q 0), .int (nI i)] : List Value).toArray bw mt cd X Y 0 0 QQ (F0 mm 0 ls []) → W pp l ee ({ frames := 3, cells := 0, slots := 0, locals := 63 } : Room) ss mm ([.ref (q 0), .int (nI i)] : List Value).toArray bw mt cd ss.heap [] 0 0 QQ (F0 mm 0 ls []) := fun X Y hX hY h => by rw [hX, hY, eH, eL] at h; exact h
  refine goal H locs rfl rfl ?_
  clear goal eH eL
  obtain ⟨hx, hb, hml, hown, hts, hlocks⟩ := hfx
  have hown : ss.vm.findClass RX4 = some mm.cls := hown
  have hl : lv_has ls 4 [(0, .ref (q 0)), (1, .int (nI i))] := hl
  refine lv_aload_n hx hb dX4_isAlike_0 rfl (lv_at hl 0 rfl) ?_
  refine lv_iload_n hx hb dX4_isAlike_1 rfl (lv_at hl 1 rfl) ?_
  refine gc_Wi (wn := fun u => [(q 0, eMod (nI 0) q U), (q 3, eZ cy 2 is), (q 5, eI cy 224 ca), (q 6, eI cy 2 zs), (q 7, eI cy 224 ow), (q 8, eI cy 2 zo)]) (wr := [(q 5, eI cy 224 ca), (q 6, eI cy 2 zs), (q 7, eI cy 224 ow), (q 8, eI cy 2 zo)]) (va_runV (As := [.int (nI i)]) (rest := []) ⟨hx, hb, hml, hown, hts⟩ (c_X4_isJoined l D cy H.size q T U i is J hi hj hJ) (cwV 1 hts gX4_isAlike_X4_isJoined rfl rfl rfl (by decide +kernel) ⟨Nat.le_of_ble_eq_true rfl, Nat.le_of_ble_eq_true rfl⟩) (gpVI (ci := 4) (q0 := 0) hG (hP.sub [0, 1] rfl) (hD.sub [0, 1] (by decide) rfl) rfl rfl) rfl rfl hl.1 rfl (lv_room (Nat.le_of_ble_eq_true rfl)) dX4_isAlike_2 ⟨Nat.zero_le _, Nat.zero_le _⟩) hP hD hS hA [0, 1] [2, 3, 4, 5] [4, 5, 0, 1, 2, 3] rfl rfl (by decide) (by decide) (fun _ => rfl) (by decide) (fun r_2 _u H locs hw_2 hP hD hS => ?_)
  have hP : va_P D vwCl [(q 0, eMod (nI 0) q U), (q 3, eZ cy 2 is), (q 5, eI cy 224 ca), (q 6, eI cy 2 zs), (q 7, eI cy 224 ow), (q 8, eI cy 2 zo)] H := hP
  have hD : va_D AA [(q 0, eMod (nI 0) q U), (q 3, eZ cy 2 is), (q 5, eI cy 224 ca), (q 6, eI cy 2 zs), (q 7, eI cy 224 ow), (q 8, eI cy 2 zo)] := hD
  obtain ⟨hr_2, hw_2⟩ := hw_2
  refine g_ti (y := gb (0 = 0)) hr_2 ?_
  have hw_2 : True := hw_2
  refine lv_if_ne (tgt := 10) hx hb dX4_isAlike_5 (by decide) (fun c_5 => ?_) (fun c_5 => ?_)
  · skip
    have c_5 : 0 = 0 := gb_ne0.mp c_5
    refine lv_aload_n hx hb dX4_isAlike_10 rfl (lv_at hl 0 rfl) ?_
    refine va_get (D := D) (ci := 4) (v := .ref (q 6)) (C := RX4) (T := TX4) (N := 17) hx hb hts iX4_isAlike_X4 hown hG.1 hP 0 rfl rfl 6 (by decide) (hts (.fieldLink RX4 26 "DirtyTilesModel" "sizes" "[I") (by decide +kernel)) (fun _ h9 => h9) rfl dX4_isAlike_11 ?_
    refine lv_iload_n hx hb dX4_isAlike_14 rfl (lv_at hl 1 rfl) ?_
    refine g_iald hx hb hG hP 3 0 rfl rfl (k := i) (by omega) (by decide) dX4_isAlike_15 ?_
    refine g_ti (y := nI K.length) (hsz) ?_
    refine lv_aload_n hx hb dX4_isAlike_16 rfl (lv_at hl 0 rfl) ?_
    refine va_get (D := D) (ci := 4) (v := .ref (q 8)) (C := RX4) (T := TX4) (N := 17) hx hb hts iX4_isAlike_X4 hown hG.1 hP 0 rfl rfl 8 (by decide) (hts (.fieldLink RX4 32 "DirtyTilesModel" "ownSizes" "[I") (by decide +kernel)) (fun _ h9 => h9) rfl dX4_isAlike_17 ?_
    refine lv_iload_n hx hb dX4_isAlike_20 rfl (lv_at hl 1 rfl) ?_
    refine g_iald hx hb hG hP 5 0 rfl rfl (k := i) (by omega) (by decide) dX4_isAlike_21 ?_
    refine g_ti (y := nI L.length) (hzo) ?_
    refine lv_icmp_ne (tgt := 29) hx hb dX4_isAlike_22 (by decide) (fun c_22 => ?_) (fun c_22 => ?_)
    · skip
      have c_22 : ¬ K.length = L.length := fun z => c_22 ((nI_eq (a := K.length) (b := L.length) (by omega) (by omega)).mpr z)
      refine lv_iconst (v := nI 0) hx hb dX4_isAlike_29 (by decide) ?_
      refine g_ti (y := gb (False)) ((gb_f id).symm) ?_
      refine lv_istore_n (lv' := [(2, .int (gb (False))), (0, .ref (q 0)), (1, .int (nI i))]) hx hb dX4_isAlike_30 rfl hl (by decide) rfl (fun ls hl => ?_)
      refine lv_iconst (v := nI 0) hx hb dX4_isAlike_31 (by decide) ?_
      refine lv_istore_n (lv' := [(3, .int (nI 0)), (2, .int (gb (False))), (0, .ref (q 0)), (1, .int (nI i))]) hx hb dX4_isAlike_32 rfl hl (by decide) rfl (fun ls hl => ?_)
      have loop_33 : ∀ (n9 : Nat) (k : Nat) (P : Prop), 16 * K.length - k < n9 → (k ≤ 16 * K.length) → (P ↔ K.length = L.length ∧ ∀ j, j < k → cel (K.getD (j / 16) 0) (j % 16) = cel (L.getD (j / 16) 0) (j % 16)) → ∀ (H : Heap) (locs : List Loc) (ls : Array Slot), va_P D vwCl [(q 0, eMod (nI 0) q U), (q 3, eZ cy 2 is), (q 5, eI cy 224 ca), (q 6, eI cy 2 zs), (q 7, eI cy 224 ow), (q 8, eI cy 2 zo)] H → va_D AA [(q 0, eMod (nI 0) q U), (q 3, eZ cy 2 is), (q 5, eI cy 224 ca), (q 6, eI cy 2 zs), (q 7, eI cy 224 ow), (q 8, eI cy 2 zo)] → va_S AA ss.heap H locs → lv_has ls 4 [(0, .ref (q 0)), (1, .int (nI i)), (2, .int (gb (P))), (3, .int (nI k))] → W pp l ee ({ frames := 3, cells := 0, slots := 0, locals := 63 } : Room) ss mm ([.ref (q 0), .int (nI i)] : List Value).toArray bw mt cd H locs 0 0 QQ (F0 mm 33 ls []) := by
        intro n9
        induction n9 with
        | zero => intro k P h9; exact absurd h9 (Nat.not_lt_zero _)
        | succ n9 ih_33 =>
          intro k P hm_33 hk hP9 H locs ls hP hD hS hl
          refine lv_iload_n hx hb dX4_isAlike_33 rfl (lv_at hl 3 rfl) ?_
          refine lv_bipush (v := nI 16) hx hb dX4_isAlike_34 (by decide) ?_
          refine lv_aload_n hx hb dX4_isAlike_36 rfl (lv_at hl 0 rfl) ?_
          refine va_get (D := D) (ci := 4) (v := .ref (q 6)) (C := RX4) (T := TX4) (N := 17) hx hb hts iX4_isAlike_X4 hown hG.1 hP 0 rfl rfl 6 (by decide) (hts (.fieldLink RX4 26 "DirtyTilesModel" "sizes" "[I") (by decide +kernel)) (fun _ h9 => h9) rfl dX4_isAlike_37 ?_
          refine lv_iload_n hx hb dX4_isAlike_40 rfl (lv_at hl 1 rfl) ?_
          refine g_iald hx hb hG hP 3 0 rfl rfl (k := i) (by omega) (by decide) dX4_isAlike_41 ?_
          refine g_ti (y := nI K.length) (hsz) ?_
          refine lv_imul hx hb dX4_isAlike_42 ?_
          refine g_ti (y := nI (16 * K.length)) (pk_mul _ _) ?_
          refine lv_icmp_ge (tgt := 87) hx hb dX4_isAlike_43 (by decide) (fun c_43 => ?_) (fun c_43 => ?_)
          · skip
            have c_43 : (16 * K.length) ≤ k := (nI_leI (a := (16 * K.length)) (b := k) (by clear hP9; omega) (by clear hP9; omega)).mp c_43
            refine lv_iload_n hx hb dX4_isAlike_87 rfl (lv_at hl 2 rfl) ?_
            exact hret _ _ _ _ _ () dX4_isAlike_88 (⟨gb_cong (alike_iff hP9 (by first | exact Or.inr c_47 | exact Or.inl (by clear hP9; omega))), trivial⟩) (hP.sub [0, 1, 2, 3, 4, 5] rfl) (hD.sub [0, 1, 2, 3, 4, 5] (by decide) rfl) hS
          · skip
            have c_43 : ¬ (16 * K.length) ≤ k := fun z => c_43 ((nI_leI (a := (16 * K.length)) (b := k) (by clear hP9; omega) (by clear hP9; omega)).mpr z)
            refine lv_iload_n hx hb dX4_isAlike_46 rfl (lv_at hl 2 rfl) ?_
            refine lv_if_eq (tgt := 87) hx hb dX4_isAlike_47 (by decide) (fun c_47 => ?_) (fun c_47 => ?_)
            · skip
              have c_47 : ¬ (P) := gb_eq0.mp c_47
              refine lv_iload_n hx hb dX4_isAlike_87 rfl (lv_at hl 2 rfl) ?_
              exact hret _ _ _ _ _ () dX4_isAlike_88 (⟨gb_cong (alike_iff hP9 (by first | exact Or.inr c_47 | exact Or.inl (by clear hP9; omega))), trivial⟩) (hP.sub [0, 1, 2, 3, 4, 5] rfl) (hD.sub [0, 1, 2, 3, 4, 5] (by decide) rfl) hS
            · skip
              have c_47 : P := gb_ne0.mp c_47
              refine lv_aload_n hx hb dX4_isAlike_50 rfl (lv_at hl 0 rfl) ?_
              refine va_get (D := D) (ci := 4) (v := .ref (q 5)) (C := RX4) (T := TX4) (N := 17) hx hb hts iX4_isAlike_X4 hown hG.1 hP 0 rfl rfl 5 (by decide) (hts (.fieldLink RX4 23 "DirtyTilesModel" "caches" "[I") (by decide +kernel)) (fun _ h9 => h9) rfl dX4_isAlike_51 ?_
              refine lv_bipush (v := nI 112) hx hb dX4_isAlike_54 (by decide) ?_
              refine lv_iload_n hx hb dX4_isAlike_56 rfl (lv_at hl 1 rfl) ?_
              refine lv_imul hx hb dX4_isAlike_57 ?_
              refine g_ti (y := nI (112 * i)) (pk_mul _ _) ?_
              refine lv_iload_n hx hb dX4_isAlike_58 rfl (lv_at hl 3 rfl) ?_
              refine lv_iadd hx hb dX4_isAlike_59 ?_
              refine g_ti (y := nI ((112 * i) + k)) (nI_add _ _) ?_
              refine g_iald hx hb hG hP 2 0 rfl rfl (k := (112 * i) + k) (by clear hP9; omega) (by decide) dX4_isAlike_60 ?_
              refine g_ti (y := nI (cel (K.getD (k / 16) 0) (k % 16))) (hCo_at hca (by clear hP9; omega)) ?_
              refine lv_aload_n hx hb dX4_isAlike_61 rfl (lv_at hl 0 rfl) ?_
              refine va_get (D := D) (ci := 4) (v := .ref (q 7)) (C := RX4) (T := TX4) (N := 17) hx hb hts iX4_isAlike_X4 hown hG.1 hP 0 rfl rfl 7 (by decide) (hts (.fieldLink RX4 29 "DirtyTilesModel" "owns" "[I") (by decide +kernel)) (fun _ h9 => h9) rfl dX4_isAlike_62 ?_
              refine lv_bipush (v := nI 112) hx hb dX4_isAlike_65 (by decide) ?_
              refine lv_iload_n hx hb dX4_isAlike_67 rfl (lv_at hl 1 rfl) ?_
              refine lv_imul hx hb dX4_isAlike_68 ?_
              refine g_ti (y := nI (112 * i)) (pk_mul _ _) ?_
              refine lv_iload_n hx hb dX4_isAlike_69 rfl (lv_at hl 3 rfl) ?_
              refine lv_iadd hx hb dX4_isAlike_70 ?_
              refine g_ti (y := nI ((112 * i) + k)) (nI_add _ _) ?_
              refine g_iald hx hb hG hP 4 0 rfl rfl (k := (112 * i) + k) (by clear hP9; omega) (by decide) dX4_isAlike_71 ?_
              refine g_ti (y := nI (cel (L.getD (k / 16) 0) (k % 16))) (hCo_at how (by have e9 := (hP9.mp c_47).1; clear hP9; omega)) ?_
              refine lv_icmp_ne (tgt := 79) hx hb dX4_isAlike_72 (by decide) (fun c_72 => ?_) (fun c_72 => ?_)
              · skip
                have c_72 : ¬ (cel (K.getD (k / 16) 0) (k % 16)) = (cel (L.getD (k / 16) 0) (k % 16)) := fun z => c_72 ((nI_eq (a := (cel (K.getD (k / 16) 0) (k % 16))) (b := (cel (L.getD (k / 16) 0) (k % 16))) (Nat.lt_trans (cel_lt _ _) (by decide)) (Nat.lt_trans (cel_lt _ _) (by decide))).mpr z)
                refine lv_iconst (v := nI 0) hx hb dX4_isAlike_79 (by decide) ?_
                refine g_ti (y := gb (False)) ((gb_f id).symm) ?_
                refine lv_istore_n (lv' := [(2, .int (gb (False))), (0, .ref (q 0)), (1, .int (nI i)), (3, .int (nI k))]) hx hb dX4_isAlike_80 rfl hl (by decide) rfl (fun ls hl => ?_)
                refine lv_iinc (v := nI (k + 1)) (lv' := [(3, .int (nI (k + 1))), (2, .int (gb (False))), (0, .ref (q 0)), (1, .int (nI i))]) hx hb dX4_isAlike_81 hl (k := 3) rfl (nI_1 _) (by decide) rfl (fun ls hl => ?_)
                refine lv_goto (tgt := 33) hx hb dX4_isAlike_84 (by decide) ?_
                exact ih_33 (k + 1) False (by clear hP9; omega) (by clear hP9; omega) (by rw [all_succ, ← and_assoc, ← hP9]; first | exact iff_of_true trivial ⟨c_47, c_72⟩ | exact iff_of_false id (fun z => c_72 z.2)) _ _ _ (hP.sub [0, 1, 2, 3, 4, 5] rfl) (hD.sub [0, 1, 2, 3, 4, 5] (by decide) rfl) hS (lv_sub hl [2, 3, 1, 0] rfl)
              · skip
                have c_72 : (cel (K.getD (k / 16) 0) (k % 16)) = (cel (L.getD (k / 16) 0) (k % 16)) := (nI_eq (a := (cel (K.getD (k / 16) 0) (k % 16))) (b := (cel (L.getD (k / 16) 0) (k % 16))) (Nat.lt_trans (cel_lt _ _) (by decide)) (Nat.lt_trans (cel_lt _ _) (by decide))).mp c_72
                refine lv_iconst (v := nI 1) hx hb dX4_isAlike_75 (by decide) ?_
                refine g_ti (y := gb (True)) ((gb_t trivial).symm) ?_
                refine lv_goto (tgt := 80) hx hb dX4_isAlike_76 (by decide) ?_
                refine lv_istore_n (lv' := [(2, .int (gb (True))), (0, .ref (q 0)), (1, .int (nI i)), (3, .int (nI k))]) hx hb dX4_isAlike_80 rfl hl (by decide) rfl (fun ls hl => ?_)
                refine lv_iinc (v := nI (k + 1)) (lv' := [(3, .int (nI (k + 1))), (2, .int (gb (True))), (0, .ref (q 0)), (1, .int (nI i))]) hx hb dX4_isAlike_81 hl (k := 3) rfl (nI_1 _) (by decide) rfl (fun ls hl => ?_)
                refine lv_goto (tgt := 33) hx hb dX4_isAlike_84 (by decide) ?_
                exact ih_33 (k + 1) True (by clear hP9; omega) (by clear hP9; omega) (by rw [all_succ, ← and_assoc, ← hP9]; first | exact iff_of_true trivial ⟨c_47, c_72⟩ | exact iff_of_false id (fun z => c_72 z.2)) _ _ _ (hP.sub [0, 1, 2, 3, 4, 5] rfl) (hD.sub [0, 1, 2, 3, 4, 5] (by decide) rfl) hS (lv_sub hl [2, 3, 1, 0] rfl)
      exact loop_33 ((16 * K.length - 0) + 1) 0 False (Nat.lt_succ_self _) (by omega) (by first | exact iff_of_true trivial ⟨c_22, fun j hj => absurd hj (Nat.not_lt_zero j)⟩ | exact iff_of_false id (fun z => c_22 z.1)) _ _ _ (hP.sub [0, 1, 2, 3, 4, 5] rfl) (hD.sub [0, 1, 2, 3, 4, 5] (by decide) rfl) hS (lv_sub hl [2, 3, 1, 0] rfl)
    · skip
      have c_22 : K.length = L.length := (nI_eq (a := K.length) (b := L.length) (by omega) (by omega)).mp c_22
      refine lv_iconst (v := nI 1) hx hb dX4_isAlike_25 (by decide) ?_
      refine g_ti (y := gb (True)) ((gb_t trivial).symm) ?_
      refine lv_goto (tgt := 30) hx hb dX4_isAlike_26 (by decide) ?_
      refine lv_istore_n (lv' := [(2, .int (gb (True))), (0, .ref (q 0)), (1, .int (nI i))]) hx hb dX4_isAlike_30 rfl hl (by decide) rfl (fun ls hl => ?_)
      refine lv_iconst (v := nI 0) hx hb dX4_isAlike_31 (by decide) ?_
      refine lv_istore_n (lv' := [(3, .int (nI 0)), (2, .int (gb (True))), (0, .ref (q 0)), (1, .int (nI i))]) hx hb dX4_isAlike_32 rfl hl (by decide) rfl (fun ls hl => ?_)
      have loop_33 : ∀ (n9 : Nat) (k : Nat) (P : Prop), 16 * K.length - k < n9 → (k ≤ 16 * K.length) → (P ↔ K.length = L.length ∧ ∀ j, j < k → cel (K.getD (j / 16) 0) (j % 16) = cel (L.getD (j / 16) 0) (j % 16)) → ∀ (H : Heap) (locs : List Loc) (ls : Array Slot), va_P D vwCl [(q 0, eMod (nI 0) q U), (q 3, eZ cy 2 is), (q 5, eI cy 224 ca), (q 6, eI cy 2 zs), (q 7, eI cy 224 ow), (q 8, eI cy 2 zo)] H → va_D AA [(q 0, eMod (nI 0) q U), (q 3, eZ cy 2 is), (q 5, eI cy 224 ca), (q 6, eI cy 2 zs), (q 7, eI cy 224 ow), (q 8, eI cy 2 zo)] → va_S AA ss.heap H locs → lv_has ls 4 [(0, .ref (q 0)), (1, .int (nI i)), (2, .int (gb (P))), (3, .int (nI k))] → W pp l ee ({ frames := 3, cells := 0, slots := 0, locals := 63 } : Room) ss mm ([.ref (q 0), .int (nI i)] : List Value).toArray bw mt cd H locs 0 0 QQ (F0 mm 33 ls []) := by
        intro n9
        induction n9 with
        | zero => intro k P h9; exact absurd h9 (Nat.not_lt_zero _)
        | succ n9 ih_33 =>
          intro k P hm_33 hk hP9 H locs ls hP hD hS hl
          refine lv_iload_n hx hb dX4_isAlike_33 rfl (lv_at hl 3 rfl) ?_
          refine lv_bipush (v := nI 16) hx hb dX4_isAlike_34 (by decide) ?_
          refine lv_aload_n hx hb dX4_isAlike_36 rfl (lv_at hl 0 rfl) ?_
          refine va_get (D := D) (ci := 4) (v := .ref (q 6)) (C := RX4) (T := TX4) (N := 17) hx hb hts iX4_isAlike_X4 hown hG.1 hP 0 rfl rfl 6 (by decide) (hts (.fieldLink RX4 26 "DirtyTilesModel" "sizes" "[I") (by decide +kernel)) (fun _ h9 => h9) rfl dX4_isAlike_37 ?_
          refine lv_iload_n hx hb dX4_isAlike_40 rfl (lv_at hl 1 rfl) ?_
          refine g_iald hx hb hG hP 3 0 rfl rfl (k := i) (by omega) (by decide) dX4_isAlike_41 ?_
          refine g_ti (y := nI K.length) (hsz) ?_
          refine lv_imul hx hb dX4_isAlike_42 ?_
          refine g_ti (y := nI (16 * K.length)) (pk_mul _ _) ?_
          refine lv_icmp_ge (tgt := 87) hx hb dX4_isAlike_43 (by decide) (fun c_43 => ?_) (fun c_43 => ?_)
          · skip
            have c_43 : (16 * K.length) ≤ k := (nI_leI (a := (16 * K.length)) (b := k) (by clear hP9; omega) (by clear hP9; omega)).mp c_43
            refine lv_iload_n hx hb dX4_isAlike_87 rfl (lv_at hl 2 rfl) ?_
            exact hret _ _ _ _ _ () dX4_isAlike_88 (⟨gb_cong (alike_iff hP9 (by first | exact Or.inr c_47 | exact Or.inl (by clear hP9; omega))), trivial⟩) (hP.sub [0, 1, 2, 3, 4, 5] rfl) (hD.sub [0, 1, 2, 3, 4, 5] (by decide) rfl) hS
          · skip
            have c_43 : ¬ (16 * K.length) ≤ k := fun z => c_43 ((nI_leI (a := (16 * K.length)) (b := k) (by clear hP9; omega) (by clear hP9; omega)).mpr z)
            refine lv_iload_n hx hb dX4_isAlike_46 rfl (lv_at hl 2 rfl) ?_
            refine lv_if_eq (tgt := 87) hx hb dX4_isAlike_47 (by decide) (fun c_47 => ?_) (fun c_47 => ?_)
            · skip
              have c_47 : ¬ (P) := gb_eq0.mp c_47
              refine lv_iload_n hx hb dX4_isAlike_87 rfl (lv_at hl 2 rfl) ?_
              exact hret _ _ _ _ _ () dX4_isAlike_88 (⟨gb_cong (alike_iff hP9 (by first | exact Or.inr c_47 | exact Or.inl (by clear hP9; omega))), trivial⟩) (hP.sub [0, 1, 2, 3, 4, 5] rfl) (hD.sub [0, 1, 2, 3, 4, 5] (by decide) rfl) hS
            · skip
              have c_47 : P := gb_ne0.mp c_47
              refine lv_aload_n hx hb dX4_isAlike_50 rfl (lv_at hl 0 rfl) ?_
              refine va_get (D := D) (ci := 4) (v := .ref (q 5)) (C := RX4) (T := TX4) (N := 17) hx hb hts iX4_isAlike_X4 hown hG.1 hP 0 rfl rfl 5 (by decide) (hts (.fieldLink RX4 23 "DirtyTilesModel" "caches" "[I") (by decide +kernel)) (fun _ h9 => h9) rfl dX4_isAlike_51 ?_
              refine lv_bipush (v := nI 112) hx hb dX4_isAlike_54 (by decide) ?_
              refine lv_iload_n hx hb dX4_isAlike_56 rfl (lv_at hl 1 rfl) ?_
              refine lv_imul hx hb dX4_isAlike_57 ?_
              refine g_ti (y := nI (112 * i)) (pk_mul _ _) ?_
              refine lv_iload_n hx hb dX4_isAlike_58 rfl (lv_at hl 3 rfl) ?_
              refine lv_iadd hx hb dX4_isAlike_59 ?_
              refine g_ti (y := nI ((112 * i) + k)) (nI_add _ _) ?_
              refine g_iald hx hb hG hP 2 0 rfl rfl (k := (112 * i) + k) (by clear hP9; omega) (by decide) dX4_isAlike_60 ?_
              refine g_ti (y := nI (cel (K.getD (k / 16) 0) (k % 16))) (hCo_at hca (by clear hP9; omega)) ?_
              refine lv_aload_n hx hb dX4_isAlike_61 rfl (lv_at hl 0 rfl) ?_
              refine va_get (D := D) (ci := 4) (v := .ref (q 7)) (C := RX4) (T := TX4) (N := 17) hx hb hts iX4_isAlike_X4 hown hG.1 hP 0 rfl rfl 7 (by decide) (hts (.fieldLink RX4 29 "DirtyTilesModel" "owns" "[I") (by decide +kernel)) (fun _ h9 => h9) rfl dX4_isAlike_62 ?_
              refine lv_bipush (v := nI 112) hx hb dX4_isAlike_65 (by decide) ?_
              refine lv_iload_n hx hb dX4_isAlike_67 rfl (lv_at hl 1 rfl) ?_
              refine lv_imul hx hb dX4_isAlike_68 ?_
              refine g_ti (y := nI (112 * i)) (pk_mul _ _) ?_
              refine lv_iload_n hx hb dX4_isAlike_69 rfl (lv_at hl 3 rfl) ?_
              refine lv_iadd hx hb dX4_isAlike_70 ?_
              refine g_ti (y := nI ((112 * i) + k)) (nI_add _ _) ?_
              refine g_iald hx hb hG hP 4 0 rfl rfl (k := (112 * i) + k) (by clear hP9; omega) (by decide) dX4_isAlike_71 ?_
              refine g_ti (y := nI (cel (L.getD (k / 16) 0) (k % 16))) (hCo_at how (by have e9 := (hP9.mp c_47).1; clear hP9; omega)) ?_
              refine lv_icmp_ne (tgt := 79) hx hb dX4_isAlike_72 (by decide) (fun c_72 => ?_) (fun c_72 => ?_)
              · skip
                have c_72 : ¬ (cel (K.getD (k / 16) 0) (k % 16)) = (cel (L.getD (k / 16) 0) (k % 16)) := fun z => c_72 ((nI_eq (a := (cel (K.getD (k / 16) 0) (k % 16))) (b := (cel (L.getD (k / 16) 0) (k % 16))) (Nat.lt_trans (cel_lt _ _) (by decide)) (Nat.lt_trans (cel_lt _ _) (by decide))).mpr z)
                refine lv_iconst (v := nI 0) hx hb dX4_isAlike_79 (by decide) ?_
                refine g_ti (y := gb (False)) ((gb_f id).symm) ?_
                refine lv_istore_n (lv' := [(2, .int (gb (False))), (0, .ref (q 0)), (1, .int (nI i)), (3, .int (nI k))]) hx hb dX4_isAlike_80 rfl hl (by decide) rfl (fun ls hl => ?_)
                refine lv_iinc (v := nI (k + 1)) (lv' := [(3, .int (nI (k + 1))), (2, .int (gb (False))), (0, .ref (q 0)), (1, .int (nI i))]) hx hb dX4_isAlike_81 hl (k := 3) rfl (nI_1 _) (by decide) rfl (fun ls hl => ?_)
                refine lv_goto (tgt := 33) hx hb dX4_isAlike_84 (by decide) ?_
                exact ih_33 (k + 1) False (by clear hP9; omega) (by clear hP9; omega) (by rw [all_succ, ← and_assoc, ← hP9]; first | exact iff_of_true trivial ⟨c_47, c_72⟩ | exact iff_of_false id (fun z => c_72 z.2)) _ _ _ (hP.sub [0, 1, 2, 3, 4, 5] rfl) (hD.sub [0, 1, 2, 3, 4, 5] (by decide) rfl) hS (lv_sub hl [2, 3, 1, 0] rfl)
              · skip
                have c_72 : (cel (K.getD (k / 16) 0) (k % 16)) = (cel (L.getD (k / 16) 0) (k % 16)) := (nI_eq (a := (cel (K.getD (k / 16) 0) (k % 16))) (b := (cel (L.getD (k / 16) 0) (k % 16))) (Nat.lt_trans (cel_lt _ _) (by decide)) (Nat.lt_trans (cel_lt _ _) (by decide))).mp c_72
                refine lv_iconst (v := nI 1) hx hb dX4_isAlike_75 (by decide) ?_
                refine g_ti (y := gb (True)) ((gb_t trivial).symm) ?_
                refine lv_goto (tgt := 80) hx hb dX4_isAlike_76 (by decide) ?_
                refine lv_istore_n (lv' := [(2, .int (gb (True))), (0, .ref (q 0)), (1, .int (nI i)), (3, .int (nI k))]) hx hb dX4_isAlike_80 rfl hl (by decide) rfl (fun ls hl => ?_)
                refine lv_iinc (v := nI (k + 1)) (lv' := [(3, .int (nI (k + 1))), (2, .int (gb (True))), (0, .ref (q 0)), (1, .int (nI i))]) hx hb dX4_isAlike_81 hl (k := 3) rfl (nI_1 _) (by decide) rfl (fun ls hl => ?_)
                refine lv_goto (tgt := 33) hx hb dX4_isAlike_84 (by decide) ?_
                exact ih_33 (k + 1) True (by clear hP9; omega) (by clear hP9; omega) (by rw [all_succ, ← and_assoc, ← hP9]; first | exact iff_of_true trivial ⟨c_47, c_72⟩ | exact iff_of_false id (fun z => c_72 z.2)) _ _ _ (hP.sub [0, 1, 2, 3, 4, 5] rfl) (hD.sub [0, 1, 2, 3, 4, 5] (by decide) rfl) hS (lv_sub hl [2, 3, 1, 0] rfl)
      exact loop_33 ((16 * K.length - 0) + 1) 0 True (Nat.lt_succ_self _) (by omega) (by first | exact iff_of_true trivial ⟨c_22, fun j hj => absurd hj (Nat.not_lt_zero j)⟩ | exact iff_of_false id (fun z => c_22 z.1)) _ _ _ (hP.sub [0, 1, 2, 3, 4, 5] rfl) (hD.sub [0, 1, 2, 3, 4, 5] (by decide) rfl) hS (lv_sub hl [2, 3, 1, 0] rfl)
  · skip
    have c_5 : ¬ (0 = 0) := gb_eq0.mp c_5
    exact absurd (by decide) c_5
theorem put_row {b k : Nat} {g : Nat → Int32} {v : Nat → Int32} {x : Int32} (h : ∀ j, j < k → g (b + j) = v j) (hx : x = v k) : ∀ j, j < k + 1 → upd g (b + k) x (b + j) = v j := by
  intro j hj
  by_cases e : j = k
  · rw [e, pk_us, hx]
  · rw [pk_un (by omega)]; exact h j (by omega)
theorem iX4_join_X4 : ∀ w ∈ wsX40, w ∈ wsX4_join := by decide +kernel
set_option maxHeartbeats 4000000 in
set_option maxRecDepth 100000 in
theorem c_X4_join (l : Launch) (D : va_G) (cy : Nat → ClassId) (sz : Nat) (q : Nat → Nat) (T U : Int32) (is ss9 zs zo d mn wa : Nat → Int32) (i : Nat) (hi : i < 2) : Met l yX4_join wsX4_join ({ frames := 2, cells := 0, slots := 0, locals := 42 } : Room) (va_Pc [.ref (q 0), .int (nI i)] (gI D (gT cy) [(q 0, eMod T q U), (q 3, eZ cy 2 is), (q 4, eI cy 384 ss9), (q 6, eI cy 2 zs), (q 8, eI cy 2 zo), (q 9, eI cy 24 d), (q 10, eI cy 2 mn), (q 13, eI cy 2 wa)] sz)) (va_Qi (fun (r9 : Int32) (u : (Nat → Int32) × (Nat → Int32) × (Nat → Int32) × (Nat → Int32) × (Nat → Int32) × (Nat → Int32) × (Nat → Int32)) => r9 = nI 12 ∧ (((u.1 i = nI 1 ∧ kO 1 i is u.1) ∧ ((∀ j, j < 192 → u.2.1 (192 * i + j) = nI 0) ∧ kO 192 i ss9 u.2.1) ∧ (u.2.2.1 i = nI 0 ∧ kO 1 i zs u.2.2.1) ∧ (u.2.2.2.1 i = nI 0 ∧ kO 1 i zo u.2.2.2.1) ∧ ((∀ j, j < 12 → u.2.2.2.2.1 (12 * i + j) = nI j) ∧ kO 12 i d u.2.2.2.2.1) ∧ (u.2.2.2.2.2.1 i = nI 12 ∧ kO 1 i mn u.2.2.2.2.2.1) ∧ (u.2.2.2.2.2.2 i = nI 0 ∧ kO 1 i wa u.2.2.2.2.2.2)))) (gO D (fun u : (Nat → Int32) × (Nat → Int32) × (Nat → Int32) × (Nat → Int32) × (Nat → Int32) × (Nat → Int32) × (Nat → Int32) => [(q 0, eMod (nI 0) q U), (q 3, eZ cy 2 u.1), (q 4, eI cy 384 u.2.1), (q 6, eI cy 2 u.2.2.1), (q 8, eI cy 2 u.2.2.2.1), (q 9, eI cy 24 u.2.2.2.2.1), (q 10, eI cy 2 u.2.2.2.2.2.1), (q 13, eI cy 2 u.2.2.2.2.2.2)]) (va_A [(q 0, eMod T q U), (q 3, eZ cy 2 is), (q 4, eI cy 384 ss9), (q 6, eI cy 2 zs), (q 8, eI cy 2 zo), (q 9, eI cy 24 d), (q 10, eI cy 2 mn), (q 13, eI cy 2 wa)] sz)) (va_A [(q 0, eMod T q U), (q 3, eZ cy 2 is), (q 4, eI cy 384 ss9), (q 6, eI cy 2 zs), (q 8, eI cy 2 zo), (q 9, eI cy 24 d), (q 10, eI cy 2 mn), (q 13, eI cy 2 wa)] sz)) 0 0 (va_A [(q 0, eMod T q U), (q 3, eZ cy 2 is), (q 4, eI cy 384 ss9), (q 6, eI cy 2 zs), (q 8, eI cy 2 zo), (q 9, eI cy 24 d), (q 10, eI cy 2 mn), (q 13, eI cy 2 wa)] sz) := by
  refine gW_i (cc := cX4_join) (maxL := 3) (ty := .int) (by decide) rfl (Nat.le_of_ble_eq_true rfl) (fun v u hv => by rfl) ?_
  intro pp ee ss mm bw mt cd QQ AA ls hfx hP hG hD hA hret hl
  have hS : va_S AA ss.heap ss.heap [] := va_S.rf
  obtain ⟨H, eH⟩ : ∃ H, H = ss.heap := ⟨_, rfl⟩
  obtain ⟨locs, eL⟩ : ∃ L : List Loc, L = [] := ⟨_, rfl⟩
  have hP : va_P D vwCl [(q 0, eMod T q U), (q 3, eZ cy 2 is), (q 4, eI cy 384 ss9), (q 6, eI cy 2 zs), (q 8, eI cy 2 zo), (q 9, eI cy 24 d), (q 10, eI cy 2 mn), (q 13, eI cy 2 wa)] H := by rw [eH]; exact hP
  have hS : va_S AA ss.heap H locs := by rw [eH, eL]; exact hS
  have goal : ∀ X Y, X = H → Y = locs → W pp l ee ({ frames := 2, cells := 0, slots := 0, locals := 42 } : Room) ss mm ([.ref (q 0), .int (nI i)] : List Value).toArray bw mt cd X Y 0 0 QQ (F0 mm 0 ls []) → W pp l ee ({ frames := 2, cells := 0, slots := 0, locals := 42 } : Room) ss mm ([.ref (q 0), .int (nI i)] : List Value).toArray bw mt cd ss.heap [] 0 0 QQ (F0 mm 0 ls []) := fun X Y hX hY h => by rw [hX, hY, eH, eL] at h; exact h
  refine goal H locs rfl rfl ?_
  clear goal eH eL
  obtain ⟨hx, hb, hml, hown, hts, hlocks⟩ := hfx
  have hown : ss.vm.findClass RX4 = some mm.cls := hown
  have hl : lv_has ls 3 [(0, .ref (q 0)), (1, .int (nI i))] := hl
  refine lv_aload_n hx hb dX4_join_0 rfl (lv_at hl 0 rfl) ?_
  refine lv_iload_n hx hb dX4_join_1 rfl (lv_at hl 1 rfl) ?_
  refine gc_Si (va_runS (As := [.int (nI i)]) (rest := [.ref (q 0)]) ⟨hx, hb, hml, hown, hts⟩ (c_X4_isClient l D cy (nI i)) (va_cwS 1 hts gX4_join_X4_isClient rfl rfl rfl (by decide +kernel) ⟨Nat.le_of_ble_eq_true rfl, Nat.le_of_ble_eq_true rfl⟩) (gpSR hG (hP.sub [] rfl)) rfl rfl hl.1 rfl (lv_room (Nat.le_of_ble_eq_true rfl)) dX4_join_2 ⟨Nat.zero_le _, Nat.zero_le _⟩) ?_
  refine lv_if_eq (tgt := 12) hx hb dX4_join_5 (by decide) (fun c_5 => ?_) (fun c_5 => ?_)
  · skip
    have c_5 : ¬ (pIn (nI i) 0 1) := gb_eq0.mp c_5
    exact absurd (ok_idx (n := 1) (by omega) (by decide)) c_5
  · skip
    have c_5 : pIn (nI i) 0 1 := gb_ne0.mp c_5
    refine lv_iconst (v := nI 0) hx hb dX4_join_8 (by decide) ?_
    refine lv_goto (tgt := 13) hx hb dX4_join_9 (by decide) ?_
    refine gc_Wi (wn := fun u => [(q 0, eMod (nI 0) q U), (q 3, eZ cy 2 is), (q 4, eI cy 384 ss9), (q 6, eI cy 2 zs), (q 8, eI cy 2 zo), (q 9, eI cy 24 d), (q 10, eI cy 2 mn), (q 13, eI cy 2 wa)]) (wr := [(q 3, eZ cy 2 is), (q 4, eI cy 384 ss9), (q 6, eI cy 2 zs), (q 8, eI cy 2 zo), (q 9, eI cy 24 d), (q 10, eI cy 2 mn), (q 13, eI cy 2 wa)]) (va_runV (As := [.int (nI 0)]) (rest := []) ⟨hx, hb, hml, hown, hts⟩ (c_X4_goesWell l D cy H.size q T U 0 (by decide)) (cwV 1 hts gX4_join_X4_goesWell rfl rfl rfl (by decide +kernel) ⟨Nat.le_of_ble_eq_true rfl, Nat.le_of_ble_eq_true rfl⟩) (gpVI (ci := 4) (q0 := 0) hG (hP.sub [0] rfl) (hD.sub [0] (by decide) rfl) rfl rfl) rfl rfl hl.1 rfl (lv_room (Nat.le_of_ble_eq_true rfl)) dX4_join_13 ⟨Nat.zero_le _, Nat.zero_le _⟩) hP hD hS hA [0] [1, 2, 3, 4, 5, 6, 7] [7, 0, 1, 2, 3, 4, 5, 6] rfl rfl (by decide) (by decide) (fun _ => rfl) (by decide) (fun r_13 _u H locs hw_13 hP hD hS => ?_)
    have hP : va_P D vwCl [(q 0, eMod (nI 0) q U), (q 3, eZ cy 2 is), (q 4, eI cy 384 ss9), (q 6, eI cy 2 zs), (q 8, eI cy 2 zo), (q 9, eI cy 24 d), (q 10, eI cy 2 mn), (q 13, eI cy 2 wa)] H := hP
    have hD : va_D AA [(q 0, eMod (nI 0) q U), (q 3, eZ cy 2 is), (q 4, eI cy 384 ss9), (q 6, eI cy 2 zs), (q 8, eI cy 2 zo), (q 9, eI cy 24 d), (q 10, eI cy 2 mn), (q 13, eI cy 2 wa)] := hD
    obtain ⟨hr_13, hw_13⟩ := hw_13
    refine g_ti (y := gb (0 = 0)) hr_13 ?_
    have hw_13 : True := hw_13
    refine lv_if_ne (tgt := 21) hx hb dX4_join_16 (by decide) (fun c_16 => ?_) (fun c_16 => ?_)
    · skip
      have c_16 : 0 = 0 := gb_ne0.mp c_16
      refine lv_aload_n hx hb dX4_join_21 rfl (lv_at hl 0 rfl) ?_
      refine va_get (D := D) (ci := 4) (v := .ref (q 3)) (C := RX4) (T := TX4) (N := 17) hx hb hts iX4_join_X4 hown hG.1 hP 0 rfl rfl 3 (by decide) (hts (.fieldLink RX4 16 "DirtyTilesModel" "isIn" "[Z") (by decide +kernel)) (fun _ h9 => h9) rfl dX4_join_22 ?_
      refine lv_iload_n hx hb dX4_join_25 rfl (lv_at hl 1 rfl) ?_
      refine lv_iconst (v := nI 1) hx hb dX4_join_26 (by decide) ?_
      refine g_zast hx hb hG hP hD hS 1 2 rfl rfl (k := i) (by omega) (by decide) rfl dX4_join_27 (fun H locs hP hD hS => ?_)
      have hP : va_P D vwCl [(q 0, eMod (nI 0) q U), (q 3, eZ cy 2 (upd is i (nI 1))), (q 4, eI cy 384 ss9), (q 6, eI cy 2 zs), (q 8, eI cy 2 zo), (q 9, eI cy 24 d), (q 10, eI cy 2 mn), (q 13, eI cy 2 wa)] H := hP
      have hD : va_D AA [(q 0, eMod (nI 0) q U), (q 3, eZ cy 2 (upd is i (nI 1))), (q 4, eI cy 384 ss9), (q 6, eI cy 2 zs), (q 8, eI cy 2 zo), (q 9, eI cy 24 d), (q 10, eI cy 2 mn), (q 13, eI cy 2 wa)] := hD
      refine lv_aload_n hx hb dX4_join_28 rfl (lv_at hl 0 rfl) ?_
      refine va_get (D := D) (ci := 4) (v := .ref (q 6)) (C := RX4) (T := TX4) (N := 17) hx hb hts iX4_join_X4 hown hG.1 hP 0 rfl rfl 6 (by decide) (hts (.fieldLink RX4 26 "DirtyTilesModel" "sizes" "[I") (by decide +kernel)) (fun _ h9 => h9) rfl dX4_join_29 ?_
      refine lv_iload_n hx hb dX4_join_32 rfl (lv_at hl 1 rfl) ?_
      refine lv_iconst (v := nI 0) hx hb dX4_join_33 (by decide) ?_
      refine g_iast hx hb hG hP hD hS 3 0 rfl rfl (k := i) (by omega) (by decide) dX4_join_34 (fun H locs hP hD hS => ?_)
      have hP : va_P D vwCl [(q 0, eMod (nI 0) q U), (q 3, eZ cy 2 (upd is i (nI 1))), (q 4, eI cy 384 ss9), (q 6, eI cy 2 (upd zs i (nI 0))), (q 8, eI cy 2 zo), (q 9, eI cy 24 d), (q 10, eI cy 2 mn), (q 13, eI cy 2 wa)] H := hP
      have hD : va_D AA [(q 0, eMod (nI 0) q U), (q 3, eZ cy 2 (upd is i (nI 1))), (q 4, eI cy 384 ss9), (q 6, eI cy 2 (upd zs i (nI 0))), (q 8, eI cy 2 zo), (q 9, eI cy 24 d), (q 10, eI cy 2 mn), (q 13, eI cy 2 wa)] := hD
      refine lv_aload_n hx hb dX4_join_35 rfl (lv_at hl 0 rfl) ?_
      refine va_get (D := D) (ci := 4) (v := .ref (q 8)) (C := RX4) (T := TX4) (N := 17) hx hb hts iX4_join_X4 hown hG.1 hP 0 rfl rfl 8 (by decide) (hts (.fieldLink RX4 32 "DirtyTilesModel" "ownSizes" "[I") (by decide +kernel)) (fun _ h9 => h9) rfl dX4_join_36 ?_
      refine lv_iload_n hx hb dX4_join_39 rfl (lv_at hl 1 rfl) ?_
      refine lv_iconst (v := nI 0) hx hb dX4_join_40 (by decide) ?_
      refine g_iast hx hb hG hP hD hS 4 0 rfl rfl (k := i) (by omega) (by decide) dX4_join_41 (fun H locs hP hD hS => ?_)
      have hP : va_P D vwCl [(q 0, eMod (nI 0) q U), (q 3, eZ cy 2 (upd is i (nI 1))), (q 4, eI cy 384 ss9), (q 6, eI cy 2 (upd zs i (nI 0))), (q 8, eI cy 2 (upd zo i (nI 0))), (q 9, eI cy 24 d), (q 10, eI cy 2 mn), (q 13, eI cy 2 wa)] H := hP
      have hD : va_D AA [(q 0, eMod (nI 0) q U), (q 3, eZ cy 2 (upd is i (nI 1))), (q 4, eI cy 384 ss9), (q 6, eI cy 2 (upd zs i (nI 0))), (q 8, eI cy 2 (upd zo i (nI 0))), (q 9, eI cy 24 d), (q 10, eI cy 2 mn), (q 13, eI cy 2 wa)] := hD
      refine lv_aload_n hx hb dX4_join_42 rfl (lv_at hl 0 rfl) ?_
      refine va_get (D := D) (ci := 4) (v := .ref (q 13)) (C := RX4) (T := TX4) (N := 17) hx hb hts iX4_join_X4 hown hG.1 hP 0 rfl rfl 13 (by decide) (hts (.fieldLink RX4 47 "DirtyTilesModel" "waiting" "[I") (by decide +kernel)) (fun _ h9 => h9) rfl dX4_join_43 ?_
      refine lv_iload_n hx hb dX4_join_46 rfl (lv_at hl 1 rfl) ?_
      refine lv_iconst (v := nI 0) hx hb dX4_join_47 (by decide) ?_
      refine g_iast hx hb hG hP hD hS 7 0 rfl rfl (k := i) (by omega) (by decide) dX4_join_48 (fun H locs hP hD hS => ?_)
      have hP : va_P D vwCl [(q 0, eMod (nI 0) q U), (q 3, eZ cy 2 (upd is i (nI 1))), (q 4, eI cy 384 ss9), (q 6, eI cy 2 (upd zs i (nI 0))), (q 8, eI cy 2 (upd zo i (nI 0))), (q 9, eI cy 24 d), (q 10, eI cy 2 mn), (q 13, eI cy 2 (upd wa i (nI 0)))] H := hP
      have hD : va_D AA [(q 0, eMod (nI 0) q U), (q 3, eZ cy 2 (upd is i (nI 1))), (q 4, eI cy 384 ss9), (q 6, eI cy 2 (upd zs i (nI 0))), (q 8, eI cy 2 (upd zo i (nI 0))), (q 9, eI cy 24 d), (q 10, eI cy 2 mn), (q 13, eI cy 2 (upd wa i (nI 0)))] := hD
      refine lv_aload_n hx hb dX4_join_49 rfl (lv_at hl 0 rfl) ?_
      refine va_get (D := D) (ci := 4) (v := .ref (q 10)) (C := RX4) (T := TX4) (N := 17) hx hb hts iX4_join_X4 hown hG.1 hP 0 rfl rfl 10 (by decide) (hts (.fieldLink RX4 38 "DirtyTilesModel" "many" "[I") (by decide +kernel)) (fun _ h9 => h9) rfl dX4_join_50 ?_
      refine lv_iload_n hx hb dX4_join_53 rfl (lv_at hl 1 rfl) ?_
      refine lv_bipush (v := nI 12) hx hb dX4_join_54 (by decide) ?_
      refine g_iast hx hb hG hP hD hS 6 0 rfl rfl (k := i) (by omega) (by decide) dX4_join_56 (fun H locs hP hD hS => ?_)
      have hP : va_P D vwCl [(q 0, eMod (nI 0) q U), (q 3, eZ cy 2 (upd is i (nI 1))), (q 4, eI cy 384 ss9), (q 6, eI cy 2 (upd zs i (nI 0))), (q 8, eI cy 2 (upd zo i (nI 0))), (q 9, eI cy 24 d), (q 10, eI cy 2 (upd mn i (nI 12))), (q 13, eI cy 2 (upd wa i (nI 0)))] H := hP
      have hD : va_D AA [(q 0, eMod (nI 0) q U), (q 3, eZ cy 2 (upd is i (nI 1))), (q 4, eI cy 384 ss9), (q 6, eI cy 2 (upd zs i (nI 0))), (q 8, eI cy 2 (upd zo i (nI 0))), (q 9, eI cy 24 d), (q 10, eI cy 2 (upd mn i (nI 12))), (q 13, eI cy 2 (upd wa i (nI 0)))] := hD
      refine lv_iconst (v := nI 0) hx hb dX4_join_57 (by decide) ?_
      refine lv_istore_n (lv' := [(2, .int (nI 0)), (0, .ref (q 0)), (1, .int (nI i))]) hx hb dX4_join_58 rfl hl (by decide) rfl (fun ls hl => ?_)
      have loop_59 : ∀ (n9 : Nat) (k : Nat) (g : Nat → Int32), 12 - k < n9 → (k ≤ 12) → ((∀ j, j < k → g (12 * i + j) = nI j) ∧ kO 12 i d g) → ∀ (H : Heap) (locs : List Loc) (ls : Array Slot), va_P D vwCl [(q 0, eMod (nI 0) q U), (q 3, eZ cy 2 (upd is i (nI 1))), (q 4, eI cy 384 ss9), (q 6, eI cy 2 (upd zs i (nI 0))), (q 8, eI cy 2 (upd zo i (nI 0))), (q 9, eI cy 24 g), (q 10, eI cy 2 (upd mn i (nI 12))), (q 13, eI cy 2 (upd wa i (nI 0)))] H → va_D AA [(q 0, eMod (nI 0) q U), (q 3, eZ cy 2 (upd is i (nI 1))), (q 4, eI cy 384 ss9), (q 6, eI cy 2 (upd zs i (nI 0))), (q 8, eI cy 2 (upd zo i (nI 0))), (q 9, eI cy 24 g), (q 10, eI cy 2 (upd mn i (nI 12))), (q 13, eI cy 2 (upd wa i (nI 0)))] → va_S AA ss.heap H locs → lv_has ls 3 [(0, .ref (q 0)), (1, .int (nI i)), (2, .int (nI k))] → W pp l ee ({ frames := 2, cells := 0, slots := 0, locals := 42 } : Room) ss mm ([.ref (q 0), .int (nI i)] : List Value).toArray bw mt cd H locs 0 0 QQ (F0 mm 59 ls []) := by
        intro n9
        induction n9 with
        | zero => intro k g h9; exact absurd h9 (Nat.not_lt_zero _)
        | succ n9 ih_59 =>
          intro k g hm_59 hk hg H locs ls hP hD hS hl
          refine lv_iload_n hx hb dX4_join_59 rfl (lv_at hl 2 rfl) ?_
          refine lv_bipush (v := nI 12) hx hb dX4_join_60 (by decide) ?_
          refine lv_icmp_ge (tgt := 83) hx hb dX4_join_62 (by decide) (fun c_62 => ?_) (fun c_62 => ?_)
          · skip
            have c_62 : 12 ≤ k := (nI_leI (a := 12) (b := k) (by omega) (by omega)).mp c_62
            refine lv_iconst (v := nI 0) hx hb dX4_join_83 (by decide) ?_
            refine lv_istore_n (lv' := [(2, .int (nI 0)), (0, .ref (q 0)), (1, .int (nI i))]) hx hb dX4_join_84 rfl hl (by decide) rfl (fun ls hl => ?_)
            have loop_85 : ∀ (n9 : Nat) (k2 : Nat) (g2 : Nat → Int32), 192 - k2 < n9 → (k2 ≤ 192) → ((∀ j, j < k2 → g2 (192 * i + j) = nI 0) ∧ kO 192 i ss9 g2) → ∀ (H : Heap) (locs : List Loc) (ls : Array Slot), va_P D vwCl [(q 0, eMod (nI 0) q U), (q 3, eZ cy 2 (upd is i (nI 1))), (q 4, eI cy 384 g2), (q 6, eI cy 2 (upd zs i (nI 0))), (q 8, eI cy 2 (upd zo i (nI 0))), (q 9, eI cy 24 g), (q 10, eI cy 2 (upd mn i (nI 12))), (q 13, eI cy 2 (upd wa i (nI 0)))] H → va_D AA [(q 0, eMod (nI 0) q U), (q 3, eZ cy 2 (upd is i (nI 1))), (q 4, eI cy 384 g2), (q 6, eI cy 2 (upd zs i (nI 0))), (q 8, eI cy 2 (upd zo i (nI 0))), (q 9, eI cy 24 g), (q 10, eI cy 2 (upd mn i (nI 12))), (q 13, eI cy 2 (upd wa i (nI 0)))] → va_S AA ss.heap H locs → lv_has ls 3 [(0, .ref (q 0)), (1, .int (nI i)), (2, .int (nI k2))] → W pp l ee ({ frames := 2, cells := 0, slots := 0, locals := 42 } : Room) ss mm ([.ref (q 0), .int (nI i)] : List Value).toArray bw mt cd H locs 0 0 QQ (F0 mm 85 ls []) := by
              intro n9
              induction n9 with
              | zero => intro k2 g2 h9; exact absurd h9 (Nat.not_lt_zero _)
              | succ n9 ih_85 =>
                intro k2 g2 hm_85 hk2 hg2 H locs ls hP hD hS hl
                refine lv_iload_n hx hb dX4_join_85 rfl (lv_at hl 2 rfl) ?_
                refine lv_sipush (v := nI 192) hx hb dX4_join_86 (by decide) ?_
                refine lv_icmp_ge (tgt := 111) hx hb dX4_join_89 (by decide) (fun c_89 => ?_) (fun c_89 => ?_)
                · skip
                  have c_89 : 192 ≤ k2 := (nI_leI (a := 192) (b := k2) (by omega) (by omega)).mp c_89
                  refine lv_bipush (v := nI 12) hx hb dX4_join_111 (by decide) ?_
                  exact hret _ _ _ _ _ ⟨upd is i (nI 1), g2, upd zs i (nI 0), upd zo i (nI 0), g, upd mn i (nI 12), upd wa i (nI 0)⟩ dX4_join_113 (⟨rfl, ⟨pk_us, kO_up (kO_rf _ _ _) ⟨by omega, by omega⟩⟩, ⟨fun j hj => hg2.1 j (by omega), hg2.2⟩, ⟨pk_us, kO_up (kO_rf _ _ _) ⟨by omega, by omega⟩⟩, ⟨pk_us, kO_up (kO_rf _ _ _) ⟨by omega, by omega⟩⟩, ⟨fun j hj => hg.1 j (by omega), hg.2⟩, ⟨pk_us, kO_up (kO_rf _ _ _) ⟨by omega, by omega⟩⟩, ⟨pk_us, kO_up (kO_rf _ _ _) ⟨by omega, by omega⟩⟩⟩) (hP.sub [0, 1, 2, 3, 4, 5, 6, 7] rfl) (hD.sub [0, 1, 2, 3, 4, 5, 6, 7] (by decide) rfl) hS
                · skip
                  have c_89 : ¬ 192 ≤ k2 := fun z => c_89 ((nI_leI (a := 192) (b := k2) (by omega) (by omega)).mpr z)
                  refine lv_aload_n hx hb dX4_join_92 rfl (lv_at hl 0 rfl) ?_
                  refine va_get (D := D) (ci := 4) (v := .ref (q 4)) (C := RX4) (T := TX4) (N := 17) hx hb hts iX4_join_X4 hown hG.1 hP 0 rfl rfl 4 (by decide) (hts (.fieldLink RX4 20 "DirtyTilesModel" "screens" "[I") (by decide +kernel)) (fun _ h9 => h9) rfl dX4_join_93 ?_
                  refine lv_sipush (v := nI 192) hx hb dX4_join_96 (by decide) ?_
                  refine lv_iload_n hx hb dX4_join_99 rfl (lv_at hl 1 rfl) ?_
                  refine lv_imul hx hb dX4_join_100 ?_
                  refine g_ti (y := nI (192 * i)) (pk_mul _ _) ?_
                  refine lv_iload_n hx hb dX4_join_101 rfl (lv_at hl 2 rfl) ?_
                  refine lv_iadd hx hb dX4_join_102 ?_
                  refine g_ti (y := nI ((192 * i) + k2)) (nI_add _ _) ?_
                  refine lv_iconst (v := nI 0) hx hb dX4_join_103 (by decide) ?_
                  refine g_iast hx hb hG hP hD hS 2 0 rfl rfl (k := (192 * i) + k2) (by omega) (by decide) dX4_join_104 (fun H locs hP hD hS => ?_)
                  have hP : va_P D vwCl [(q 0, eMod (nI 0) q U), (q 3, eZ cy 2 (upd is i (nI 1))), (q 4, eI cy 384 (upd g2 ((192 * i) + k2) (nI 0))), (q 6, eI cy 2 (upd zs i (nI 0))), (q 8, eI cy 2 (upd zo i (nI 0))), (q 9, eI cy 24 g), (q 10, eI cy 2 (upd mn i (nI 12))), (q 13, eI cy 2 (upd wa i (nI 0)))] H := hP
                  have hD : va_D AA [(q 0, eMod (nI 0) q U), (q 3, eZ cy 2 (upd is i (nI 1))), (q 4, eI cy 384 (upd g2 ((192 * i) + k2) (nI 0))), (q 6, eI cy 2 (upd zs i (nI 0))), (q 8, eI cy 2 (upd zo i (nI 0))), (q 9, eI cy 24 g), (q 10, eI cy 2 (upd mn i (nI 12))), (q 13, eI cy 2 (upd wa i (nI 0)))] := hD
                  refine lv_iinc (v := nI (k2 + 1)) (lv' := [(2, .int (nI (k2 + 1))), (0, .ref (q 0)), (1, .int (nI i))]) hx hb dX4_join_105 hl (k := 2) rfl (nI_1 _) (by decide) rfl (fun ls hl => ?_)
                  refine lv_goto (tgt := 85) hx hb dX4_join_108 (by decide) ?_
                  exact ih_85 (k2 + 1) (upd g2 ((192 * i) + k2) (nI 0)) (by omega) (by omega) ⟨put_row (v := fun _ => nI 0) hg2.1 rfl, kO_up hg2.2 ⟨by omega, by omega⟩⟩ _ _ _ (hP.sub [0, 1, 2, 3, 4, 5, 6, 7] rfl) (hD.sub [0, 1, 2, 3, 4, 5, 6, 7] (by decide) rfl) hS (lv_sub hl [1, 2, 0] rfl)
            exact loop_85 ((192 - 0) + 1) 0 ss9 (Nat.lt_succ_self _) (by omega) ⟨fun j hj => absurd hj (Nat.not_lt_zero j), kO_rf _ _ _⟩ _ _ _ (hP.sub [0, 1, 2, 3, 4, 5, 6, 7] rfl) (hD.sub [0, 1, 2, 3, 4, 5, 6, 7] (by decide) rfl) hS (lv_sub hl [1, 2, 0] rfl)
          · skip
            have c_62 : ¬ 12 ≤ k := fun z => c_62 ((nI_leI (a := 12) (b := k) (by omega) (by omega)).mpr z)
            refine lv_aload_n hx hb dX4_join_65 rfl (lv_at hl 0 rfl) ?_
            refine va_get (D := D) (ci := 4) (v := .ref (q 9)) (C := RX4) (T := TX4) (N := 17) hx hb hts iX4_join_X4 hown hG.1 hP 0 rfl rfl 9 (by decide) (hts (.fieldLink RX4 35 "DirtyTilesModel" "dirty" "[I") (by decide +kernel)) (fun _ h9 => h9) rfl dX4_join_66 ?_
            refine lv_bipush (v := nI 12) hx hb dX4_join_69 (by decide) ?_
            refine lv_iload_n hx hb dX4_join_71 rfl (lv_at hl 1 rfl) ?_
            refine lv_imul hx hb dX4_join_72 ?_
            refine g_ti (y := nI (12 * i)) (pk_mul _ _) ?_
            refine lv_iload_n hx hb dX4_join_73 rfl (lv_at hl 2 rfl) ?_
            refine lv_iadd hx hb dX4_join_74 ?_
            refine g_ti (y := nI ((12 * i) + k)) (nI_add _ _) ?_
            refine lv_iload_n hx hb dX4_join_75 rfl (lv_at hl 2 rfl) ?_
            refine g_iast hx hb hG hP hD hS 5 0 rfl rfl (k := (12 * i) + k) (by omega) (by decide) dX4_join_76 (fun H locs hP hD hS => ?_)
            have hP : va_P D vwCl [(q 0, eMod (nI 0) q U), (q 3, eZ cy 2 (upd is i (nI 1))), (q 4, eI cy 384 ss9), (q 6, eI cy 2 (upd zs i (nI 0))), (q 8, eI cy 2 (upd zo i (nI 0))), (q 9, eI cy 24 (upd g ((12 * i) + k) (nI k))), (q 10, eI cy 2 (upd mn i (nI 12))), (q 13, eI cy 2 (upd wa i (nI 0)))] H := hP
            have hD : va_D AA [(q 0, eMod (nI 0) q U), (q 3, eZ cy 2 (upd is i (nI 1))), (q 4, eI cy 384 ss9), (q 6, eI cy 2 (upd zs i (nI 0))), (q 8, eI cy 2 (upd zo i (nI 0))), (q 9, eI cy 24 (upd g ((12 * i) + k) (nI k))), (q 10, eI cy 2 (upd mn i (nI 12))), (q 13, eI cy 2 (upd wa i (nI 0)))] := hD
            refine lv_iinc (v := nI (k + 1)) (lv' := [(2, .int (nI (k + 1))), (0, .ref (q 0)), (1, .int (nI i))]) hx hb dX4_join_77 hl (k := 2) rfl (nI_1 _) (by decide) rfl (fun ls hl => ?_)
            refine lv_goto (tgt := 59) hx hb dX4_join_80 (by decide) ?_
            exact ih_59 (k + 1) (upd g ((12 * i) + k) (nI k)) (by omega) (by omega) ⟨put_row hg.1 rfl, kO_up hg.2 ⟨by omega, by omega⟩⟩ _ _ _ (hP.sub [0, 1, 2, 3, 4, 5, 6, 7] rfl) (hD.sub [0, 1, 2, 3, 4, 5, 6, 7] (by decide) rfl) hS (lv_sub hl [1, 2, 0] rfl)
      exact loop_59 ((12 - 0) + 1) 0 d (Nat.lt_succ_self _) (by omega) ⟨fun j hj => absurd hj (Nat.not_lt_zero j), kO_rf _ _ _⟩ _ _ _ (hP.sub [0, 1, 2, 3, 4, 5, 6, 7] rfl) (hD.sub [0, 1, 2, 3, 4, 5, 6, 7] (by decide) rfl) hS (lv_sub hl [1, 2, 0] rfl)
    · skip
      have c_16 : ¬ (0 = 0) := gb_eq0.mp c_16
      exact absurd (by decide) c_16
